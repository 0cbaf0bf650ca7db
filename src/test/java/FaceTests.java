import java.lang.reflect.Constructor;
import java.lang.reflect.Field;
import java.lang.reflect.Method;
import java.lang.reflect.Modifier;
import java.nio.file.Files;
import java.nio.file.Path;
import java.util.Arrays;
import java.util.Set;
import java.util.TreeSet;
import java.util.regex.Matcher;
import java.util.regex.Pattern;

/** The document's face and no more, and the rules of LANGUAGE.md that can be seen from the text or the classes. */
public final class FaceTests {
  private static final String[] FACE = {"int feed(int,long)", "int field()", "int term()", "int termOf(int,int)",
      "int set(int,int)", "int weather(int,int)", "int harvest(int,int)", "int whose(int,int,int,int)",
      "int mind(int,int)", "long worth(int,int,int)", "int pains(int)", "int takes(int)", "int mean(int,int,int)",
      "int proof()", "long gap()", "long half()", "int less(int,int,int,int)", "int looks(int,int,int)",
      "long years(int,int,int,int)", "int leaving(int,int)", "int offer(int,int,int)", "int parts(int,int,int)",
      "int own(int,int)", "long bears(int,int)", "int ruin(int,int,int,int,int,int)", "int owes(int,int,int,int,int)",
      "int ruins(int,int,int,int,int,int,int)", "int row(int)", "int judge(int,int)", "int image()", "int restore()",
      "int count(int)"};
  private static final String[] FORBIDDEN = {"\\bthrow\\b", "\\btry\\b", "\\bcatch\\b", "\\bsynchronized\\b",
      "\\bassert\\b", "\\bimport\\b", "\\bpackage\\b", "->", "::", "Exact\\b", "\\binstanceof\\b", "\\bObject\\b",
      "\\bString\\b", "\\bwhile\\b", "@"};

  private static int wrong = 0;

  private static void due(String what, Object got, Object want) {
    if (!want.equals(got)) {
      wrong++;
      System.out.println(what + ": " + got + ", due is " + want);
    }
  }

  private static String told(Method m) {
    StringBuilder s = new StringBuilder(m.getReturnType() + " " + m.getName() + "(");
    for (Class<?> c : m.getParameterTypes()) s.append(s.charAt(s.length() - 1) == '(' ? "" : ",").append(c);
    return s.append(")").toString();
  }

  private static void face() {
    Class<?> c = HalfOrNine.class;
    due("public final", Modifier.isPublic(c.getModifiers()) && Modifier.isFinal(c.getModifiers()), true);
    Set<String> open = new TreeSet<>();
    Set<String> names = new TreeSet<>();
    for (Method m : c.getDeclaredMethods()) {
      if (Modifier.isPublic(m.getModifiers())) {
        open.add(told(m));
        names.add(m.getName());
      }
    }
    due("the face", open, new TreeSet<>(Arrays.asList(FACE)));
    for (Method m : c.getDeclaredMethods()) {
      if (!Modifier.isPublic(m.getModifiers())) {
        due("private " + m.getName(), Modifier.isPrivate(m.getModifiers()) && !names.contains(m.getName()), true);
      }
    }
    for (Field f : c.getDeclaredFields()) due("private " + f, Modifier.isPrivate(f.getModifiers()), true);
    Constructor<?>[] made = c.getDeclaredConstructors();
    due("one constructor without parameters", made.length == 1 && made[0].getParameterCount() == 0, true);
  }

  private static void inside() {
    Class<?>[] classes = HalfOrNine.class.getDeclaredClasses();
    due("twelve classes at most", classes.length < 12, true);
    for (Class<?> c : classes) {
      due("static " + c, Modifier.isStatic(c.getModifiers()) && !Modifier.isPublic(c.getModifiers()), true);
      int fields = 0;
      for (Field f : c.getDeclaredFields()) {
        boolean constant = Modifier.isStatic(f.getModifiers());
        due("final " + f, !constant || Modifier.isFinal(f.getModifiers()), true);
        if (!constant) fields++;
      }
      due("twenty fields of " + c, fields <= 20, true);
      for (Method m : c.getDeclaredMethods()) due("seven of " + m, m.getParameterCount() <= 7, true);
    }
  }

  private static void words() throws Exception {
    String text = new String(Files.readAllBytes(Path.of("src/main/java/HalfOrNine.java")));
    String bare = text.replaceAll("(?s)/\\*.*?\\*/", "").replaceAll("//[^\n]*", "");
    for (String word : FORBIDDEN) {
      Matcher m = Pattern.compile(word).matcher(bare);
      due("the text has " + word, m.find(), false);
    }
  }

  public static void main(String[] args) throws Exception {
    face();
    inside();
    words();
    System.out.println(wrong == 0 ? "the face is the document's" : wrong + " wrong");
    if (wrong != 0) System.exit(1);
  }
}
