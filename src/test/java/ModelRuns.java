import java.util.ArrayList;
import java.util.Arrays;
import java.util.Collections;
import java.util.List;
import java.util.Random;
import java.util.TreeSet;

/**
 * Runs of drawn calls, each answered by the class and by a second, slow reading of the document written in lists and
 * sets. Again and again in a run a new object is given the calls so far, and then asked all that can be asked, as far
 * as its 512 calls go. At the end the edges of the document must have been met, so that a run that never comes there
 * does not pass for one that does.
 */
public final class ModelRuns {
  static final int UNKNOWN = -1000000001, OUTSIDE = -1000000002, NOT = -1000000003, FULL = -1000000004;
  static final int[] SIZE = {5, 4, 4, 3, 2, 2};

  /** Sections 1 to 4 and the seed, in the document's own words. */
  static final class So {
    int now, lost, newest = -1, given = 2;
    long seed;
    int[] dropped = new int[4];
    List<int[]> road = new ArrayList<>(), held = new ArrayList<>(), row = new ArrayList<>();
    TreeSet<Integer> live = new TreeSet<>(List.of(0, 1)), spare = new TreeSet<>(List.of(1)), everSpare = new TreeSet<>(List.of(1));
    int[] nameOf = {0, -1, -1, -1, -1}, got = new int[5], put = new int[5];
    boolean[] sure = {true, false, false, false, false}, proved = {true, false, false, false, false};
    int[] said = new int[2], confirmed = new int[2], numbered = new int[2], asked = new int[2], current = new int[2];
    int former = -1, back = -1;
    List<TreeSet<Integer>> has = List.of(new TreeSet<>(), new TreeSet<>());
    List<TreeSet<Integer>> took = List.of(new TreeSet<>(), new TreeSet<>());

    So copy() {
      So c = new So();
      c.now = now; c.lost = lost; c.newest = newest; c.given = given; c.seed = seed;
      c.dropped = dropped.clone();
      for (int[] x : road) c.road.add(x.clone());
      for (int[] x : held) c.held.add(x.clone());
      for (int[] x : row) c.row.add(x.clone());
      c.live = new TreeSet<>(live); c.spare = new TreeSet<>(spare); c.everSpare = new TreeSet<>(everSpare);
      c.nameOf = nameOf.clone(); c.got = got.clone(); c.put = put.clone(); c.sure = sure.clone(); c.proved = proved.clone();
      c.said = said.clone(); c.confirmed = confirmed.clone(); c.numbered = numbered.clone(); c.asked = asked.clone();
      c.current = current.clone(); c.former = former; c.back = back;
      for (int e = 0; e < 2; e++) { c.has.get(e).addAll(has.get(e)); c.took.get(e).addAll(took.get(e)); }
      return c;
    }
  }

  static final class Model {
    So s = new So();
    List<int[]> book = new ArrayList<>();
    So[] image = new So[2];
    int roadFull, heldFull, rowFull, forgotten, wentBack, leftBehind, closedByTick, otherPlaceProved, nameless;

    int inRow(int e) { int n = 0; while (s.has.get(e).contains(n)) n++; return n; }

    void sent(int e, int place, int kind, int value) {
      int number = s.numbered[e]++;
      if (e == 1) s.put[place] += SIZE[kind];
      if (s.road.size() == 24) { s.lost++; roadFull++; return; }
      if (e == 0 && s.nameOf[place] == -1) nameless++;
      s.road.add(new int[] {e, place, e == 0 ? s.nameOf[place] : -1, number, kind, value});
    }

    boolean may(int place, int kind) { return s.proved[place] || s.put[place] + SIZE[kind] <= 3 * s.got[place]; }

    void houseLetter(int place, int kind, int value) {
      if (may(place, kind)) { sent(1, place, kind, value); return; }
      if (s.held.size() == 12) { s.held.remove(0); heldFull++; }
      s.held.add(new int[] {place, kind, value});
    }

    void letOut(int place) {
      List<int[]> stay = new ArrayList<>();
      boolean stopped = false;
      for (int[] h : s.held) {
        if (h[0] != place || stopped) { stay.add(h); continue; }
        if (may(place, h[1])) sent(1, place, h[1], h[2]);
        else { stopped = true; stay.add(h); }
      }
      s.held = stay;
    }

    void toChallenge(int e, int place) {
      int value = s.asked[e]++;
      if (s.row.size() == 6) { s.row.remove(0); rowFull++; }
      s.row.add(new int[] {e, value, place, s.now, 0});
      if (e == 0) sent(0, place, 1, value); else houseLetter(place, 1, value);
    }

    boolean houseAsks(int place) {
      for (int[] c : s.row) if (c[0] == 1 && c[2] == place) return true;
      return false;
    }

    int answered(int e, int value) {
      for (int[] c : s.row) if (c[0] == e && c[1] == value) { s.row.remove(c); return c[2]; }
      return -1;
    }

    int drop(int why) { s.dropped[why]++; return why; }

    int house(int[] l) {
      int place = l[1], name = l[2], number = l[3], kind = l[4], value = l[5];
      if (!s.live.contains(name)) return drop(1);
      if (!s.took.get(1).add(number)) return drop(3);
      s.got[place] += SIZE[kind];
      boolean probe = kind >= 1 && kind <= 3;
      if (!probe && number > s.newest) {
        s.newest = number;
        if (place != s.current[1]) {
          if (s.proved[s.current[1]]) s.back = s.current[1];
          s.current[1] = place;
          if (!s.proved[place] && !houseAsks(place)) toChallenge(1, place);
        }
      }
      if (kind == 0) { s.has.get(1).add(value); houseLetter(s.current[1], 5, inRow(1)); }
      if (kind == 1) {
        houseLetter(place, 2, value);
        if (!s.proved[place] && !houseAsks(place)) toChallenge(1, place);
      }
      if (kind == 2) {
        int p = answered(1, value);
        if (p != -1) { if (p != place) otherPlaceProved++; s.proved[p] = true; letOut(p); }
      }
      if (kind == 4 && value != name && s.live.remove(value) && s.given < 40) {
        s.live.add(s.given);
        houseLetter(s.current[1], 3, s.given++);
      }
      if (kind == 5) s.confirmed[1] = Math.max(s.confirmed[1], value);
      letOut(place);
      return 0;
    }

    int guest(int[] l) {
      int place = l[1], number = l[3], kind = l[4], value = l[5];
      if (s.nameOf[place] == -1) return drop(2);
      if (!s.took.get(0).add(number)) return drop(3);
      if (kind == 0) { s.has.get(0).add(value); sent(0, s.current[0], 5, inRow(0)); }
      if (kind == 1) sent(0, place, 2, value);
      if (kind == 2) { int p = answered(0, value); if (p != -1) s.sure[p] = true; }
      if (kind == 3 && s.everSpare.add(value)) s.spare.add(value);
      if (kind == 5) s.confirmed[0] = Math.max(s.confirmed[0], value);
      return 0;
    }

    void goneTo(int p) { s.former = s.current[0]; s.current[0] = p; sent(0, p, 5, inRow(0)); }

    int closed(int p) { int n = s.nameOf[p]; s.nameOf[p] = -1; sent(0, s.current[0], 4, n); return n; }

    int tick() {
      s.now++;
      for (int[] c : new ArrayList<>(s.row)) {
        if (s.now - c[3] < 3) continue;
        int p = c[2];
        if (c[4] < 2) {
          c[4]++; c[3] = s.now;
          if (c[0] == 0) sent(0, p, 1, c[1]); else houseLetter(p, 1, c[1]);
          continue;
        }
        s.row.remove(c);
        if (c[0] == 1 && !s.proved[p]) {
          forgotten++;
          s.got[p] = 0; s.put[p] = 0;
          s.held.removeIf(h -> h[0] == p);
          if (s.current[1] == p) { s.current[1] = s.back; wentBack++; }
        }
        if (c[0] == 0 && s.nameOf[p] != -1 && !s.sure[p]) {
          if (s.current[0] == p && s.former != -1 && s.nameOf[s.former] != -1) { goneTo(s.former); leftBehind++; }
          if (s.current[0] != p) { closed(p); closedByTick++; }
        }
      }
      return s.row.size();
    }

    int draw(int n) { s.seed = (s.seed * 1103515245L + 12345L) % (1L << 31); return (int) (s.seed / 65536 % n); }

    int arrive(int k) {
      if (k < 0 || k >= s.road.size()) return UNKNOWN;
      int[] l = s.road.remove(k);
      return l[0] == 0 ? house(l) : guest(l);
    }

    int lose(int k) {
      if (k < 0 || k >= s.road.size()) return UNKNOWN;
      s.road.remove(k); s.lost++;
      return s.road.size();
    }

    int speaks(int e) {
      if (s.said[e] == 40) return FULL;
      int w = s.said[e]++;
      if (e == 0) sent(0, s.current[0], 0, w); else houseLetter(s.current[1], 0, w);
      return w;
    }

    int open(int p) {
      if (p < 0 || p > 4) return UNKNOWN;
      if (s.nameOf[p] != -1 || s.spare.isEmpty()) return NOT;
      int n = s.spare.pollFirst();
      s.nameOf[p] = n; s.sure[p] = false;
      toChallenge(0, p);
      return n;
    }

    int go(int p) {
      if (p < 0 || p > 4) return UNKNOWN;
      if (s.nameOf[p] == -1 || s.current[0] == p) return NOT;
      goneTo(p);
      return s.former;
    }

    int close(int p) {
      if (p < 0 || p > 4) return UNKNOWN;
      if (s.nameOf[p] == -1 || s.current[0] == p) return NOT;
      return closed(p);
    }

    int again(int e) {
      if (e != 0 && e != 1) return UNKNOWN;
      int w = s.confirmed[e];
      if (w >= s.said[e]) return NOT;
      if (e == 0) sent(0, s.current[0], 0, w); else houseLetter(s.current[1], 0, w);
      return w;
    }

    int drift(int n) {
      if (n < 1 || n > 20) return OUTSIDE;
      for (int i = 0; i < n; i++) {
        int d = draw(10);
        if (d <= 3 && !s.road.isEmpty()) arrive(draw(s.road.size()));
        if (d == 4 && !s.road.isEmpty()) lose(draw(s.road.size()));
        if (d == 5) speaks(0);
        if (d == 6) speaks(1);
        if (d == 7) tick();
        if (d == 8) { int p = draw(5); if (s.nameOf[p] != -1) go(p); else open(p); }
        if (d == 9) again(draw(2));
      }
      return s.road.size();
    }

    boolean settled() {
      int p = s.current[0];
      if (p != s.current[1] || !s.proved[p] || s.nameOf[p] == -1 || !s.road.isEmpty() || !s.held.isEmpty()) return false;
      for (int e = 0; e < 2; e++) for (int w = 0; w < s.said[1 - e]; w++) if (!s.has.get(e).contains(w)) return false;
      return true;
    }

    int wrong() {
      for (int k = 0; k < book.size(); k++) {
        int[] b = book.get(k);
        if ((s.has.get(b[0]).contains(b[1]) ? 1 : 0) != b[2]) return k;
      }
      return -1;
    }

    int told(int what) {
      int[] t = {s.now, s.road.size(), s.held.size(), s.row.size(), s.current[0], s.current[1], s.former, s.back, s.given,
          s.live.size(), s.spare.size(), s.newest, s.dropped[1], s.dropped[2], s.dropped[3], s.lost, settled() ? 1 : 0,
          book.size(), wrong(), (int) s.seed};
      return what < 0 || what >= t.length ? OUTSIDE : t[what];
    }

    int end(int e, int what) {
      if (e != 0 && e != 1) return UNKNOWN;
      int[] t = {s.said[e], s.has.get(e).size(), inRow(e), s.confirmed[e], s.numbered[e], s.asked[e]};
      return what < 0 || what >= t.length ? OUTSIDE : t[what];
    }

    int place(int p, int what) {
      if (p < 0 || p > 4) return UNKNOWN;
      int n = 0;
      for (int[] h : s.held) if (h[0] == p) n++;
      int[] t = {s.nameOf[p], s.sure[p] ? 1 : 0, s.proved[p] ? 1 : 0, s.got[p], s.put[p], n};
      return what < 0 || what >= t.length ? OUTSIDE : t[what];
    }

    static int of(List<int[]> rows, int k, int what) {
      if (k < 0 || k >= rows.size()) return UNKNOWN;
      return what < 0 || what >= rows.get(k).length ? OUTSIDE : rows.get(k)[what];
    }

    int name(int n) { return n < 0 || n >= s.given ? UNKNOWN : (s.live.contains(n) ? 1 : 0) + (s.spare.contains(n) ? 2 : 0); }

    int word(int e, int w) {
      if (e != 0 && e != 1 || w < 0 || w >= s.said[1 - e]) return UNKNOWN;
      return s.has.get(e).contains(w) ? 1 : 0;
    }

    int twice(int k) {
      if (k < 0 || k >= s.road.size()) return UNKNOWN;
      if (s.road.size() == 24) return FULL;
      s.road.add(s.road.get(k).clone());
      return s.road.size();
    }

    int forge(int p, int name, int number, int kind, int value) {
      if (p < 0 || p > 4) return UNKNOWN;
      if (name < -1 || name > 99 || number < 0 || number > 9999 || kind < 0 || kind > 5 || value < 0 || value > 99) return OUTSIDE;
      if (s.road.size() == 24) return FULL;
      s.road.add(new int[] {0, p, name, number, kind, value});
      return s.road.size();
    }

    int write(int e, int w, int is) {
      if (e != 0 && e != 1) return UNKNOWN;
      if (w < 0 || w > 39 || is < 0 || is > 1) return OUTSIDE;
      if (book.size() == 20) return FULL;
      book.add(new int[] {e, w, is});
      return book.size();
    }

    int tear() { int n = book.size(); book.clear(); return n; }

    int seed(int v) { if (v < 0) return OUTSIDE; int was = (int) s.seed; s.seed = v; return was; }

    int keep(int i) { if (i != 0 && i != 1) return UNKNOWN; image[i] = s.copy(); return 1; }

    int goBack(int i) {
      if (i != 0 && i != 1) return UNKNOWN;
      if (image[i] == null) return NOT;
      s = image[i].copy();
      return 1;
    }
  }

  static final int MOST_CALLS = 512;
  static int wrong = 0;

  /** A call, its arguments, and what the document asks for as its answer. */
  static final class Call {
    final String name;
    final int[] with;
    int due;

    Call(String name, int... with) { this.name = name; this.with = with; }

    @Override public String toString() { return name + Arrays.toString(with) + "=" + due; }
  }

  static int ofClass(MovedWays x, Call c) {
    int[] a = c.with;
    switch (c.name) {
      case "told": return x.told(a[0]);
      case "end": return x.end(a[0], a[1]);
      case "place": return x.place(a[0], a[1]);
      case "letter": return x.letter(a[0], a[1]);
      case "challenge": return x.challenge(a[0], a[1]);
      case "held": return x.held(a[0], a[1]);
      case "name": return x.name(a[0]);
      case "word": return x.word(a[0], a[1]);
      case "say": return x.say();
      case "open": return x.open(a[0]);
      case "go": return x.go(a[0]);
      case "close": return x.close(a[0]);
      case "speak": return x.speak();
      case "again": return x.again(a[0]);
      case "arrive": return x.arrive(a[0]);
      case "lose": return x.lose(a[0]);
      case "twice": return x.twice(a[0]);
      case "forge": return x.forge(a[0], a[1], a[2], a[3], a[4]);
      case "tick": return x.tick();
      case "drift": return x.drift(a[0]);
      case "write": return x.write(a[0], a[1], a[2]);
      case "tear": return x.tear();
      case "seed": return x.seed(a[0]);
      case "keep": return x.keep(a[0]);
      default: return x.goBack(a[0]);
    }
  }

  static int ofModel(Model m, Call c) {
    int[] a = c.with;
    switch (c.name) {
      case "told": return m.told(a[0]);
      case "end": return m.end(a[0], a[1]);
      case "place": return m.place(a[0], a[1]);
      case "letter": return Model.of(m.s.road, a[0], a[1]);
      case "challenge": return Model.of(m.s.row, a[0], a[1]);
      case "held": return Model.of(m.s.held, a[0], a[1]);
      case "name": return m.name(a[0]);
      case "word": return m.word(a[0], a[1]);
      case "say": return m.speaks(0);
      case "open": return m.open(a[0]);
      case "go": return m.go(a[0]);
      case "close": return m.close(a[0]);
      case "speak": return m.speaks(1);
      case "again": return m.again(a[0]);
      case "arrive": return m.arrive(a[0]);
      case "lose": return m.lose(a[0]);
      case "twice": return m.twice(a[0]);
      case "forge": return m.forge(a[0], a[1], a[2], a[3], a[4]);
      case "tick": return m.tick();
      case "drift": return m.drift(a[0]);
      case "write": return m.write(a[0], a[1], a[2]);
      case "tear": return m.tear();
      case "seed": return m.seed(a[0]);
      case "keep": return m.keep(a[0]);
      default: return m.goBack(a[0]);
    }
  }

  // ---- drawing calls

  /** Mostly a number of 0 .. n - 1; now and then one just outside, or far away. */
  static int near(Random r, int n) {
    int d = r.nextInt(40);
    if (d == 0) return -1;
    if (d == 1) return n;
    if (d == 2) return new int[] {Integer.MIN_VALUE, Integer.MAX_VALUE, -2, 100, 10000, 1 << 30, -(1 << 30)}[r.nextInt(7)];
    return r.nextInt(Math.max(1, n));
  }

  /** A forger who knows something: mostly live names and numbers near what the guest uses. */
  static Call forged(Model m, Random r) {
    int name = r.nextInt(8) == 0 ? near(r, 100) - 1 : liveOne(m, r, -1);
    int number = r.nextInt(3) == 0 ? near(r, 10000) : m.s.numbered[0] + r.nextInt(60);
    int p = near(r, 5), kind = r.nextInt(3) == 0 ? 4 : near(r, 6);
    int value = kind == 4 && r.nextInt(8) != 0 ? liveOne(m, r, name) : r.nextInt(4) == 0 ? near(r, 100) : r.nextInt(12);
    return new Call("forge", p, name, number, kind, value);
  }

  static int liveOne(Model m, Random r, int but) {
    List<Integer> all = new ArrayList<>(m.s.live);
    all.remove((Integer) but);
    return all.isEmpty() ? 0 : all.get(r.nextInt(all.size()));
  }

  static final String[] CALLS = {"say", "open", "go", "close", "speak", "again", "arrive", "lose", "twice", "forge", "tick", "drift", "write", "tear", "seed", "keep", "goBack"};

  static Call drawn(Model m, Random r, int[] weight) {
    int d = r.nextInt(Arrays.stream(weight).sum()), c = 0;
    while (d >= weight[c]) d -= weight[c++];
    switch (CALLS[c]) {
      case "say": case "speak": case "tick": case "tear": return new Call(CALLS[c]);
      case "open": case "go": case "close": return new Call(CALLS[c], near(r, 5));
      case "arrive": case "lose": case "twice": return new Call(CALLS[c], near(r, m.s.road.size()));
      case "forge": return forged(m, r);
      case "drift": return new Call("drift", near(r, 21));
      case "write": return new Call("write", near(r, 2), near(r, 40), near(r, 2));
      case "seed": return new Call("seed", r.nextInt());
      default: return new Call(CALLS[c], near(r, 2));
    }
  }

  //                            say open go close speak again arrive lose twice forge tick drift write tear seed keep goBack
  static final int[][] MANNERS = {
      {6, 4, 4, 2, 6, 4, 40, 3, 4, 4, 8, 1, 2, 0, 0, 1, 0},
      {4, 8, 8, 6, 4, 3, 60, 0, 1, 0, 4, 0, 1, 0, 0, 0, 0},
      {2, 2, 2, 1, 8, 8, 30, 1, 2, 30, 6, 0, 2, 1, 0, 1, 1},
      {6, 6, 6, 2, 6, 6, 10, 1, 8, 8, 4, 1, 4, 1, 1, 1, 1},
      {1, 1, 1, 1, 1, 1, 2, 1, 1, 1, 1, 20, 1, 1, 3, 1, 1},
      {1, 6, 6, 2, 4, 4, 20, 8, 1, 2, 30, 0, 1, 0, 0, 1, 0},
      {0, 30, 1, 30, 0, 0, 70, 0, 0, 25, 1, 0, 0, 0, 0, 0, 0},
      {0, 1, 1, 1, 0, 0, 60, 0, 0, 40, 1, 0, 9, 0, 0, 0, 0},
  };

  // ---- comparing

  /** All that can be asked of what is there, and one more of each row; then some wild ones. */
  static List<Call> questions(Model m, Random r) {
    List<Call> all = new ArrayList<>();
    for (int t = 0; t < 20; t++) all.add(new Call("told", t));
    for (int e = 0; e < 2; e++) {
      for (int t = 0; t < 6; t++) all.add(new Call("end", e, t));
      for (int w = 0; w <= m.s.said[1 - e]; w++) all.add(new Call("word", e, w));
    }
    for (int p = 0; p < 5; p++) for (int t = 0; t < 6; t++) all.add(new Call("place", p, t));
    for (int k = 0; k <= m.s.road.size(); k++) for (int t = 0; t < 6; t++) all.add(new Call("letter", k, t));
    for (int k = 0; k <= m.s.row.size(); k++) for (int t = 0; t < 5; t++) all.add(new Call("challenge", k, t));
    for (int k = 0; k <= m.s.held.size(); k++) for (int t = 0; t < 3; t++) all.add(new Call("held", k, t));
    for (int n = 0; n <= m.s.given; n++) all.add(new Call("name", n));
    Collections.shuffle(all, r);
    for (String row : new String[] {"end", "place", "letter", "challenge", "held"}) all.add(r.nextInt(all.size()), new Call(row, near(r, 30), near(r, 7)));
    all.add(0, new Call("told", near(r, 21)));
    all.add(0, new Call("name", near(r, 41)));
    all.add(0, new Call("word", near(r, 2), near(r, 41)));
    return all;
  }

  static void compare(MovedWays x, Call c, List<Call> run) {
    int got = ofClass(x, c);
    if (got == c.due) return;
    wrong++;
    if (wrong <= 5) System.out.println(c + " answered " + got + ", in " + run);
  }

  /** A new object is given the run so far, and asked what is so as far as its calls go. */
  static void look(List<Call> run, Model m, Random r) {
    MovedWays x = new MovedWays();
    for (Call c : run) compare(x, c, run);
    int left = MOST_CALLS - run.size();
    for (Call c : questions(m, r)) {
      if (left-- <= 0) return;
      c.due = ofModel(m, c);
      compare(x, c, run);
    }
  }

  static final int RUNS = 1200;
  static final int[] met = new int[9];
  static int names = 0, words = 0, settled = 0, bookFull = 0, top = 0;

  static void oneRun(int number) {
    Random r = new Random(number);
    Model m = new Model();
    List<Call> run = new ArrayList<>();
    look(run, m, r);
    for (int i = 0; i < MOST_CALLS && wrong == 0; i++) {
      Call c = drawn(m, r, MANNERS[number % MANNERS.length]);
      c.due = ofModel(m, c);
      run.add(c);
      if (r.nextInt(6) == 0 || i == MOST_CALLS - 1) look(run, m, r);
      if (m.settled()) settled++;
    }
    int[] now = {m.roadFull, m.heldFull, m.rowFull, m.forgotten, m.wentBack, m.leftBehind, m.closedByTick, m.otherPlaceProved, m.nameless};
    for (int i = 0; i < met.length; i++) met[i] += now[i];
    if (m.s.given == 40) names++;
    if (m.s.said[0] == 40 || m.s.said[1] == 40) words++;
    if (m.book.size() == 20) bookFull++;
    top = Math.max(top, Math.max(m.s.numbered[0], m.s.numbered[1]));
  }

  public static void main(String[] args) {
    for (int run = 0; run < RUNS; run++) oneRun(run);
    System.out.println("met: road full, held full, row full, forgotten, went back, left behind, closed by a tick, another place proved, nameless "
        + Arrays.toString(met) + ", names " + names + ", words " + words + ", settled " + settled + ", book " + bookFull + ", top number " + top);
    for (int n : met) if (n == 0) wrong++;
    if (names == 0 || words == 0 || settled == 0 || bookFull == 0) wrong++;
    System.out.println(wrong == 0 ? "all answers are as due" : wrong + " answers are not as due, or edges not met");
    if (wrong != 0) System.exit(1);
  }
}
