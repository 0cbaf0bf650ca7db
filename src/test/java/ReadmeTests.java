import java.io.IOException;
import java.nio.file.Files;
import java.nio.file.Path;
import java.util.ArrayList;
import java.util.List;
import java.util.regex.Matcher;
import java.util.regex.Pattern;
import java.util.stream.Stream;

/** What README.md says of the class's use and of its tests, followed word for word on a copy of the checkout. */
public final class ReadmeTests {
  private static final Path README = Path.of("README.md");

  private record Block(String kind, String text) { }

  private static int wrong = 0;

  private static void due(String what, Object got, Object want) {
    if (!want.equals(got)) {
      wrong++;
      System.out.println("README.md: " + what + " is " + got + ", told is " + want);
    }
  }

  private static List<Block> blocks() throws IOException {
    List<Block> all = new ArrayList<>();
    Matcher m = Pattern.compile("(?ms)^```(\\w+)\n(.*?)^```$").matcher(Files.readString(README));
    while (m.find()) all.add(new Block(m.group(1), m.group(2)));
    return all;
  }

  /** The files of the checkout but git's own and what was compiled; ../shared stands where it stands here. */
  private static Path checkout() throws IOException {
    Path root = Files.createTempDirectory("readme");
    Path main = Files.createDirectory(root.resolve("main"));
    Files.createSymbolicLink(root.resolve("shared"), Path.of("../shared").toAbsolutePath().normalize());
    for (String part : new String[] {"README.md", ".ci", "src"}) copy(Path.of(part), main.resolve(part));
    return root;
  }

  private static void copy(Path from, Path to) throws IOException {
    Files.copy(from, to);
    if (!Files.isDirectory(from)) return;
    try (Stream<Path> inside = Files.list(from)) {
      for (Path p : inside.toList()) copy(p, to.resolve(p.getFileName()));
    }
  }

  private static void remove(Path p) throws IOException {
    if (Files.isDirectory(p) && !Files.isSymbolicLink(p)) {
      try (Stream<Path> inside = Files.list(p)) {
        for (Path in : inside.toList()) remove(in);
      }
    }
    Files.delete(p);
  }

  private static String run(Path directory, String commands) throws Exception {
    Process p = new ProcessBuilder("bash", "-e", "-c", commands).directory(directory.toFile())
        .redirectErrorStream(true).start();
    String printed = new String(p.getInputStream().readAllBytes());
    due("the exit code of \"" + commands.trim() + "\" (it printed \"" + printed.trim() + "\")", p.waitFor(), 0);
    return printed;
  }

  /** Whether a file under ../shared that the commands name is not there. */
  private static boolean lacksShared(String commands) {
    Matcher m = Pattern.compile("\\.\\./shared/\\S+").matcher(commands);
    while (m.find()) {
      if (!Files.exists(Path.of(m.group()))) return true;
    }
    return false;
  }

  /** .ci/run, which runs this test, is looked at only; all other commands are run, in their order. */
  private static void commands(List<Block> blocks, Path main) throws Exception {
    int runs = 0;
    for (int i = 0; i < blocks.size(); i++) {
      if (!blocks.get(i).kind().equals("sh")) continue;
      String commands = blocks.get(i).text();
      if (commands.equals(".ci/run\n")) {
        due(".ci/run can be run", Files.isExecutable(main.resolve(".ci/run")), true);
        continue;
      }
      runs++;
      if (lacksShared(commands)) continue;
      String printed = run(main, commands);
      if (i + 1 < blocks.size() && blocks.get(i + 1).kind().equals("text")) {
        due("what \"" + commands.trim() + "\" prints", printed, blocks.get(i + 1).text());
      }
    }
    due("how many blocks of commands there are beside .ci/run", runs, 3);
  }

  /** The lines of Java between which the comment tells the answer: "// \"text\": 4, ..", "// 2 ..". */
  private static void answers(List<Block> blocks, Path main) throws Exception {
    StringBuilder program = new StringBuilder("public final class Told {\n  public static void main(String[] args) {\n");
    StringBuilder want = new StringBuilder();
    for (Block b : blocks) {
      if (!b.kind().equals("java")) continue;
      for (String line : b.text().split("\n")) {
        Matcher m = Pattern.compile("(x\\..*); // (?:\"(.*)\": )?(-?\\d+).*").matcher(line);
        if (!m.matches()) {
          program.append(line).append('\n');
          continue;
        }
        program.append("System.out.println(").append(m.group(1)).append(");\n");
        want.append(m.group(3)).append('\n');
        if (m.group(2) != null) due("the text of " + m.group(1), fed(m.group(1)), m.group(2));
      }
    }
    Files.writeString(main.resolve("Told.java"), program.append("  }\n}\n"));
    due("what the lines of Java answer",
        run(main, "javac -d told src/main/java/HalfOrNine.java Told.java && java -cp told Told"), want.toString());
  }

  /** The text whose bytes a call of feed holds. */
  private static String fed(String call) {
    Matcher m = Pattern.compile("x\\.feed\\((\\d+), 0x([0-9a-f]+)L\\)").matcher(call);
    if (!m.matches()) return "none";
    long bytes = Long.parseUnsignedLong(m.group(2), 16);
    StringBuilder s = new StringBuilder();
    for (int i = 0; i < Integer.parseInt(m.group(1)); i++) s.append((char) (bytes >>> (8 * i) & 255));
    return s.toString();
  }

  /** Each test of the project is named, and no other. */
  private static void names() throws IOException {
    String told = Files.readString(README);
    try (Stream<Path> files = Files.list(Path.of("src/test/java"))) {
      for (Path p : files.sorted().toList()) {
        String name = p.getFileName().toString().replace(".java", "");
        due("that `" + name + "` is named", told.contains("`" + name + "`"), true);
      }
    }
    Matcher m = Pattern.compile("`(\\w+Tests)`").matcher(told);
    while (m.find()) {
      due("that " + m.group(1) + " is there", Files.exists(Path.of("src/test/java", m.group(1) + ".java")), true);
    }
  }

  public static void main(String[] args) throws Exception {
    List<Block> blocks = blocks();
    Path root = checkout();
    try {
      commands(blocks, root.resolve("main"));
      answers(blocks, root.resolve("main"));
    } finally {
      remove(root);
    }
    names();
    System.out.println(wrong == 0 ? "README.md is so when it is followed" : wrong + " wrong");
    if (wrong != 0) System.exit(1);
  }
}
