import java.io.IOException;
import java.nio.file.DirectoryStream;
import java.nio.file.Files;
import java.nio.file.Path;
import java.util.ArrayList;
import java.util.Arrays;
import java.util.List;
import java.util.Map;
import java.util.TreeMap;

/**
 * The boundary cases of the document, each sentence a test of its own. They are written in src/test/boundaries, one file
 * for each promise, in the form that the file README.md there tells. No object is asked more than 512 calls, since what
 * it answers then is free.
 */
public final class BoundaryTests {
  static final int MOST_CALLS = 512, PROMISES = 26;

  static final Map<String, Integer> SIGNS = new TreeMap<>(Map.of("NONE", -1, "UNKNOWN", -1000000001, "OUTSIDE", -1000000002,
      "NOT", -1000000003, "FULL", -1000000004, "MIN", Integer.MIN_VALUE, "MAX", Integer.MAX_VALUE, "GUEST", 0, "HOUSE", 1));
  static final List<String> KINDS = List.of("WORD", "CHALLENGE", "ANSWER", "NAMED", "RETIRED", "HEARD");
  static final Map<String, Integer> WIDTHS = Map.of("told", 20, "end", 6, "place", 6, "letter", 6, "challenge", 5, "held", 3);

  /** What is done after a refused call, and after none, before all is asked: it must come to the same. */
  static final String[] AFTERWARDS = {
      "", "goBack(0)", "goBack(1)", "30*arrive(0)", "5*drift(20)", "9*tick()",
      "say(); speak(); again(0|1); open(0..4); go(0..4); close(0..4); tear(); write(0, 0, 0); keep(1); twice(0); lose(0)"};

  static int wrong = 0, asked = 0;

  // ---- what a test says

  /** One call, and what it must answer: no number, if that is not asked here. */
  static final class Step {
    final String call;
    final int[] with;
    Integer due;
    boolean mustNotChange;

    Step(String call, int[] with) { this.call = call; this.with = with; }

    @Override public String toString() {
      StringBuilder text = new StringBuilder(call).append('(');
      for (int i = 0; i < with.length; i++) text.append(i == 0 ? "" : ", ").append(with[i]);
      return text.append(')').toString();
    }
  }

  static final class Test {
    final int promise;
    final String sentence;
    final List<Step> steps = new ArrayList<>();

    Test(int promise, String sentence) { this.promise = promise; this.sentence = sentence; }

    void fails(String why) {
      wrong++;
      System.out.println("promise " + promise + ", " + sentence + ": " + why);
    }
  }

  // ---- reading them

  static int number(String sign, Map<String, Integer> loops) {
    int sum = 0;
    for (String part : sign.trim().split("\\+")) {
      if (loops.containsKey(part)) sum += loops.get(part);
      else if (SIGNS.containsKey(part)) sum += SIGNS.get(part);
      else if (KINDS.contains(part)) sum += KINDS.indexOf(part);
      else sum += Integer.parseInt(part);
    }
    return sum;
  }

  /** 3, 1|4|MAX, 0..5, or * for all that may be asked there. */
  static int[] choices(String text, String call, Map<String, Integer> loops) {
    if (text.equals("*")) return range(0, WIDTHS.get(call) - 1);
    int dots = text.indexOf("..");
    if (dots >= 0) return range(number(text.substring(0, dots), loops), number(text.substring(dots + 2), loops));
    return Arrays.stream(text.split("\\|")).mapToInt(s -> number(s, loops)).toArray();
  }

  static int[] range(int from, int to) {
    int[] all = new int[to - from + 1];
    for (int i = 0; i < all.length; i++) all[i] = from + i;
    return all;
  }

  /** Each call that the text stands for, the last argument going fastest. */
  static List<Step> calls(String text, Map<String, Integer> loops) {
    int open = text.indexOf('('), close = text.lastIndexOf(')');
    String name = text.substring(0, open).trim(), inside = text.substring(open + 1, close).trim();
    List<int[]> rows = new ArrayList<>(List.of(new int[0]));
    for (String argument : inside.isEmpty() ? new String[0] : inside.split(",")) {
      List<int[]> longer = new ArrayList<>();
      for (int[] row : rows) {
        for (int choice : choices(argument.trim(), name, loops)) {
          int[] next = Arrays.copyOf(row, row.length + 1);
          next[row.length] = choice;
          longer.add(next);
        }
      }
      rows = longer;
    }
    List<Step> steps = new ArrayList<>();
    for (int[] row : rows) steps.add(new Step(name, row));
    return steps;
  }

  static void readStatement(String text, Map<String, Integer> loops, List<Step> into) {
    String rest = text.trim();
    boolean refused = rest.startsWith("!");
    if (refused) rest = rest.substring(1).trim();
    int times = 1, star = rest.indexOf('*');
    if (star >= 0 && star < rest.indexOf('(')) {
      times = Integer.parseInt(rest.substring(0, star).trim());
      rest = rest.substring(star + 1).trim();
    }
    int is = rest.indexOf('=');
    String[] due = is < 0 ? new String[0] : rest.substring(is + 1).trim().split("\\s+");
    String call = is < 0 ? rest : rest.substring(0, is).trim();
    for (int i = 0; i < times; i++) {
      List<Step> steps = calls(call, loops);
      if (due.length > 0 && steps.size() % due.length != 0) throw new IllegalStateException("answers do not fit: " + text);
      for (int k = 0; k < steps.size(); k++) {
        Step step = steps.get(k);
        if (due.length > 0) step.due = number(due[k % due.length], loops);
        step.mustNotChange = refused;
        into.add(step);
      }
    }
  }

  /** A line: statements, or 'for n 1..38: statements'. */
  static void readLine(String line, Map<String, Integer> loops, List<Step> into) {
    if (line.startsWith("for ")) {
      int colon = line.indexOf(':');
      String[] head = line.substring(4, colon).trim().split(" ");
      for (int n : choices(head[1], "", loops)) {
        Map<String, Integer> inner = new TreeMap<>(loops);
        inner.put(head[0], n);
        readLine(line.substring(colon + 1).trim(), inner, into);
      }
      return;
    }
    for (String statement : line.split(";")) if (!statement.isBlank()) readStatement(statement, loops, into);
  }

  static List<Test> readFile(Path file) throws IOException {
    int promise = Integer.parseInt(file.getFileName().toString().substring(0, 2));
    List<Test> tests = new ArrayList<>();
    for (String line : Files.readAllLines(file)) {
      int comment = line.startsWith(":") ? -1 : line.indexOf('#');
      String text = (comment < 0 ? line : line.substring(0, comment)).trim();
      if (text.isEmpty()) continue;
      if (text.startsWith(":")) tests.add(new Test(promise, text.substring(1).trim()));
      else readLine(text, Map.of(), tests.get(tests.size() - 1).steps);
    }
    return tests;
  }

  // ---- asking

  /** An object, and how often it was called. */
  static final class Asked {
    final MovedWays x = new MovedWays();
    int calls;

    boolean mayBeAsked() { return calls < MOST_CALLS; }

    int call(String name, int... a) {
      switch (name) {
        case "tell": return tell(a);
        case "loseAll": while (told(1) > 0) call("lose", 0); return 0;
        case "arriveAll": while (told(1) > 0 && mayBeAsked()) call("arrive", 0); return told(1);
        default: calls++; return plain(name, a);
      }
    }

    int told(int what) { return call("told", what); }

    /** A stranger's letter that arrives at once: what that answers. */
    int tell(int[] a) {
      int on = call("forge", a);
      return on < 0 ? on : call("arrive", on - 1);
    }

    int plain(String name, int[] a) {
      switch (name) {
        case "told": return x.told(a[0]);
        case "end": return x.end(a[0], a[1]);
        case "place": return x.place(a[0], a[1]);
        case "letter": return x.letter(a[0], a[1]);
        case "challenge": return x.challenge(a[0], a[1]);
        case "held": return x.held(a[0], a[1]);
        case "name": return x.name(a[0]);
        case "word": return x.word(a[0], a[1]);
        case "say": return x.say();
        case "open": return x.open(a[0]);
        case "go": return x.go(a[0]);
        case "close": return x.close(a[0]);
        case "speak": return x.speak();
        case "again": return x.again(a[0]);
        case "arrive": return x.arrive(a[0]);
        case "lose": return x.lose(a[0]);
        case "twice": return x.twice(a[0]);
        case "forge": return x.forge(a[0], a[1], a[2], a[3], a[4]);
        case "tick": return x.tick();
        case "drift": return x.drift(a[0]);
        case "write": return x.write(a[0], a[1], a[2]);
        case "tear": return x.tear();
        case "seed": return x.seed(a[0]);
        case "keep": return x.keep(a[0]);
        case "goBack": return x.goBack(a[0]);
        default: throw new IllegalStateException("no such call: " + name);
      }
    }

    /** All that can be asked, as far as the calls go; of rows those that are there, and one more. */
    List<Integer> all() {
      List<Integer> answers = new ArrayList<>();
      for (int what = 0; what < 20; what++) ask(answers, "told", what);
      for (int e = 0; e < 2; e++) for (int what = 0; what < 6; what++) ask(answers, "end", e, what);
      for (int p = 0; p < 5; p++) for (int what = 0; what < 6; what++) ask(answers, "place", p, what);
      askRows(answers, "challenge", answers.get(3));
      askRows(answers, "held", answers.get(2));
      for (int n = 0; n <= answers.get(8); n++) ask(answers, "name", n);
      askRows(answers, "letter", answers.get(1));
      for (int e = 0; e < 2; e++) for (int w = 0; w <= answers.get(20 + 6 * (1 - e)); w++) ask(answers, "word", e, w);
      return answers;
    }

    void askRows(List<Integer> answers, String call, int rows) {
      for (int k = 0; k < rows; k++) for (int what = 0; what < WIDTHS.get(call); what++) ask(answers, call, k, what);
      ask(answers, call, rows, 0);
    }

    void ask(List<Integer> answers, String call, int... with) { if (mayBeAsked()) answers.add(call(call, with)); }
  }

  // ---- judging

  static void judge(Test test) {
    Asked x = new Asked();
    for (int i = 0; i < test.steps.size(); i++) {
      Step step = test.steps.get(i);
      int answer = x.call(step.call, step.with);
      if (step.due != null) {
        asked++;
        if (answer != step.due) test.fails(step + ", call " + (i + 1) + ", answered " + answer + ", due is " + step.due);
      }
      if (step.mustNotChange) judgeNoChange(test, i);
    }
    if (x.calls > MOST_CALLS) test.fails("more than " + MOST_CALLS + " calls");
  }

  static void judgeNoChange(Test test, int at) {
    for (String afterwards : AFTERWARDS) {
      asked++;
      List<Integer> with = whatComes(test.steps, at, true, afterwards), without = whatComes(test.steps, at, false, afterwards);
      int n = Math.min(with.size(), without.size());
      if (!with.subList(0, n).equals(without.subList(0, n))) test.fails(test.steps.get(at) + " changed something, seen after '" + afterwards + "'");
    }
  }

  /** What is so after the steps before this one, with it or without, and what is done afterwards. */
  static List<Integer> whatComes(List<Step> steps, int at, boolean withIt, String afterwards) {
    Asked x = new Asked();
    for (int i = 0; i < (withIt ? at + 1 : at); i++) x.call(steps.get(i).call, steps.get(i).with);
    List<Step> later = new ArrayList<>();
    readLine(afterwards, Map.of(), later);
    List<Integer> answers = new ArrayList<>();
    for (Step step : later) x.ask(answers, step.call, step.with);
    answers.addAll(x.all());
    return answers;
  }

  static Path boundaries() {
    String main = System.getProperty("main");
    return (main == null ? Path.of("src") : Path.of(main).getParent().getParent().getParent()).resolve("test").resolve("boundaries");
  }

  public static void main(String[] args) throws IOException {
    int[] tests = new int[PROMISES + 1];
    try (DirectoryStream<Path> files = Files.newDirectoryStream(boundaries(), "[0-9][0-9]-*.txt")) {
      for (Path file : files) {
        for (Test test : readFile(file)) {
          tests[test.promise]++;
          judge(test);
        }
      }
    }
    for (int p = 1; p <= PROMISES; p++) {
      if (tests[p] == 0) { wrong++; System.out.println("promise " + p + " has no boundary test"); }
    }
    System.out.println(Arrays.stream(tests).sum() + " sentences, " + asked + " answers: " + (wrong == 0 ? "all are as due" : wrong + " are not as due"));
    if (wrong != 0) System.exit(1);
  }
}
