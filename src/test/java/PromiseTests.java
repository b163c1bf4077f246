import java.util.Arrays;
import java.util.function.IntSupplier;

/** For each promise of the document: ordinary inputs, the edges that it names, wrong inputs. No object is asked more than 512 calls. */
public final class PromiseTests {
  static final int NONE = -1, UNKNOWN = -1000000001, OUTSIDE = -1000000002, NOT = -1000000003, FULL = -1000000004;
  static final int WORD = 0, CHALLENGE = 1, ANSWER = 2, NAMED = 3, RETIRED = 4, HEARD = 5;
  static final int[] FAR = {Integer.MIN_VALUE, Integer.MIN_VALUE + 1, -1000000001, -2, Integer.MAX_VALUE, Integer.MAX_VALUE - 1, 1 << 30, 357913942};

  static int wrong = 0, checks = 0;
  static String promise = "";

  static void due(String call, int got, int want) {
    checks++;
    if (got != want) { wrong++; System.out.println(promise + ": " + call + " answered " + got + ", due is " + want); }
  }

  static void due(String call, int[] got, int... want) {
    checks++;
    if (!Arrays.equals(got, want)) {
      wrong++;
      System.out.println(promise + ": " + call + " answered " + Arrays.toString(got) + ", due is " + Arrays.toString(want));
    }
  }

  static int[] letter(MovedWays x, int k) { int[] a = new int[6]; for (int i = 0; i < 6; i++) a[i] = x.letter(k, i); return a; }
  static int[] place(MovedWays x, int p) { int[] a = new int[6]; for (int i = 0; i < 6; i++) a[i] = x.place(p, i); return a; }
  static int[] challenge(MovedWays x, int k) { int[] a = new int[5]; for (int i = 0; i < 5; i++) a[i] = x.challenge(k, i); return a; }
  static int[] held(MovedWays x, int k) { int[] a = new int[3]; for (int i = 0; i < 3; i++) a[i] = x.held(k, i); return a; }
  static int[] end(MovedWays x, int e) { int[] a = new int[6]; for (int i = 0; i < 6; i++) a[i] = x.end(e, i); return a; }

  /** All that can be asked of what is there, as one row: no more calls than an object has left. */
  static int[] all(MovedWays x) {
    int[] a = new int[500];
    int n = 0;
    for (int i = 0; i < 20; i++) a[n++] = x.told(i);
    for (int e = 0; e < 2; e++) for (int i = 0; i < 6; i++) a[n++] = x.end(e, i);
    for (int e = 0; e < 2; e++) for (int w = 0; w < a[26 - 6 * e]; w++) a[n++] = x.word(e, w);
    for (int p = 0; p < 5; p++) for (int i = 0; i < 6; i++) a[n++] = x.place(p, i);
    for (int k = 0; k < a[1]; k++) for (int i = 0; i < 6; i++) a[n++] = x.letter(k, i);
    for (int k = 0; k < a[2]; k++) for (int i = 0; i < 3; i++) a[n++] = x.held(k, i);
    for (int k = 0; k < a[3]; k++) for (int i = 0; i < 5; i++) a[n++] = x.challenge(k, i);
    for (int i = 0; i < a[8]; i++) a[n++] = x.name(i);
    return Arrays.copyOf(a, n);
  }

  /** That a refused call changes nothing is looked at by BoundaryTests, which makes the objects anew for it. */
  static void refused(MovedWays x, String call, IntSupplier answer, int want) {
    due(call, answer.getAsInt(), want);
    due(call + " again", answer.getAsInt(), want);
  }

  /** A stranger's letter that arrives at once, alone. */
  static int tell(MovedWays x, int p, int name, int number, int kind, int value) {
    return x.arrive(x.forge(p, name, number, kind, value) - 1);
  }

  static void loseAll(MovedWays x) { while (x.told(1) > 0) x.lose(x.told(1) - 1); }

  static void arriveAll(MovedWays x) { for (int i = 0; i < 200 && x.told(1) > 0; i++) x.arrive(0); }

  static void ticks(MovedWays x, int n) { for (int i = 0; i < n; i++) x.tick(); }

  static MovedWays fullRoad() {
    MovedWays x = new MovedWays();
    for (int i = 0; i < 24; i++) x.say();
    return x;
  }

  // ---- 1 A new object

  static void newObject() {
    MovedWays x = new MovedWays();
    int[] told = {0, 0, 0, 0, 0, 0, -1, -1, 2, 2, 1, -1, 0, 0, 0, 0, 1, 0, -1, 0};
    for (int i = 0; i < told.length; i++) due("told(" + i + ")", x.told(i), told[i]);
    due("place 0", place(x, 0), 0, 1, 1, 0, 0, 0);
    for (int p = 1; p < 5; p++) due("place " + p, place(x, p), -1, 0, 0, 0, 0, 0);
    due("end 0", end(x, 0), 0, 0, 0, 0, 0, 0);
    due("end 1", end(x, 1), 0, 0, 0, 0, 0, 0);
    due("name(0)", x.name(0), 1);
    due("name(1)", x.name(1), 3);
    due("name(2)", x.name(2), UNKNOWN);
    due("goBack(0)", x.goBack(0), NOT);
    due("goBack(1)", x.goBack(1), NOT);
    MovedWays y = new MovedWays();
    y.say();
    due("another object", x.told(1), 0);
    due("constants", new int[] {MovedWays.NONE, MovedWays.UNKNOWN, MovedWays.OUTSIDE, MovedWays.NOT, MovedWays.FULL}, NONE, UNKNOWN, OUTSIDE, NOT, FULL);
  }

  // ---- 2 told

  static void told() {
    MovedWays x = new MovedWays();
    for (int w : FAR) due("told(" + w + ")", x.told(w), OUTSIDE);
    due("told(-1)", x.told(-1), OUTSIDE);
    due("told(20)", x.told(20), OUTSIDE);
    x.tick();
    due("NOW", x.told(0), 1);
    x.say();
    due("SETTLED, a letter on the road", x.told(16), 0);
    x.lose(0);
    due("lost", x.told(15), 1);
    due("SETTLED, a word is lost", x.told(16), 0);
    x.again(0);
    arriveAll(x);
    due("SETTLED, it is there", x.told(16), 1);
    x.open(3);
    loseAll(x);
    due("SETTLED, a challenge waits", x.told(16), 1);
    x.go(3);
    loseAll(x);
    due("SETTLED, the house is elsewhere", x.told(16), 0);
    due("CURRENT, FORMER", new int[] {x.told(4), x.told(5), x.told(6)}, 3, 0, 0);
    due("SPARE", x.told(10), 0);
    due("NEWEST", x.told(11), 1);
    toldSettledOfHouse();
    toldDropped();
    toldRoadFull();
    toldWrong();
  }

  static void toldSettledOfHouse() {
    MovedWays x = new MovedWays();
    x.open(1);
    x.go(1);
    x.lose(0);
    x.arrive(0);
    loseAll(x);
    due("both at 1", new int[] {x.told(4), x.told(5)}, 1, 1);
    due("SETTLED, not PROVED", x.told(16), 0);
    tell(x, 1, 1, 500, ANSWER, 0);
    loseAll(x);
    due("SETTLED, PROVED", x.told(16), 1);
    x.speak();
    loseAll(x);
    due("SETTLED, the guest has not all", x.told(16), 0);
    x.again(1);
    arriveAll(x);
    due("SETTLED, it has", x.told(16), 1);
    x.go(0);
    loseAll(x);
    due("SETTLED, two ways, both proved and open", x.told(16), 0);
    MovedWays y = new MovedWays();
    tell(y, 0, 0, 500, WORD, 7);
    loseAll(y);
    due("SETTLED, a word that was not said", y.told(16), 1);
    due("it HAS 1", new int[] {y.end(1, 1), y.end(1, 2)}, 1, 0);
    MovedWays z = new MovedWays();
    tell(z, 1, 0, 500, HEARD, 0);
    z.speak();
    loseAll(z);
    tell(z, 0, 0, 501, HEARD, 0);
    due("one is HELD for 1, the ways are one", new int[] {z.told(1), z.told(2), z.told(4), z.told(5)}, 0, 1, 0, 0);
    due("SETTLED, HELD ones", z.told(16), 0);
  }

  static void toldDropped() {
    MovedWays x = new MovedWays();
    due("no such name", tell(x, 0, 2, 1, HEARD, 0), 1);
    due("no name", tell(x, 0, -1, 1, HEARD, 0), 1);
    due("a name", tell(x, 0, 0, 1, HEARD, 0), 0);
    due("the number again", tell(x, 0, 0, 1, WORD, 0), 3);
    due("no such name goes first", tell(x, 0, 50, 1, WORD, 0), 1);
    tell(x, 2, 0, 5, CHALLENGE, 9);
    due("place 2 is not open", x.arrive(0), 2);
    due("DROPPED", new int[] {x.told(12), x.told(13), x.told(14)}, 3, 2 - 1, 1);
  }

  static void toldRoadFull() {
    MovedWays x = fullRoad();
    due("on the road", x.told(1), 24);
    due("say on a full road", x.say(), 24);
    due("lost", x.told(15), 1);
    due("numbered", x.end(0, 4), 25);
    due("speak on a full road", x.speak(), 0);
    due("lost", x.told(15), 2);
    due("PUT rises all the same", x.place(0, 4), 5);
    due("the house numbered", x.end(1, 4), 1);
    x.lose(0);
    x.say();
    due("the number is used up", letter(x, 23), 0, 0, 0, 25, WORD, 25);
  }

  static void toldWrong() {
    MovedWays x = new MovedWays();
    x.write(1, 0, 0);
    x.write(0, 3, 0);
    due("WRONG", new int[] {x.told(17), x.told(18)}, 2, -1);
    x.say();
    x.arrive(0);
    due("WRONG now", x.told(18), 0);
    x.tear();
    x.write(1, 0, 1);
    x.write(1, 1, 1);
    due("WRONG", x.told(18), 1);
    tell(x, 0, 0, 77, WORD, 1);
    due("a stranger told it", x.told(18), -1);
  }

  // ---- 3 end

  static void end() {
    MovedWays x = new MovedWays();
    for (int e : new int[] {-1, 2, Integer.MIN_VALUE, Integer.MAX_VALUE}) due("end(" + e + ", 0)", x.end(e, 0), UNKNOWN);
    due("end(2, 9)", x.end(2, 9), UNKNOWN);
    for (int w : FAR) due("end(0, " + w + ")", x.end(0, w), OUTSIDE);
    due("end(1, 6)", x.end(1, 6), OUTSIDE);
    due("end(0, -1)", x.end(0, -1), OUTSIDE);
    for (int i = 0; i < 3; i++) { x.say(); x.speak(); }
    x.open(4);
    due("guest", end(x, 0), 3, 0, 0, 0, 4, 1);
    due("house", end(x, 1), 3, 0, 0, 0, 3, 0);
    x.arrive(4);
    due("word 2 arrived, not in row", end(x, 1), 3, 1, 0, 0, 4, 0);
    x.arrive(0);
    due("word 0", end(x, 1), 3, 2, 1, 0, 5, 0);
    tell(x, 0, 0, 99, WORD, 1);
    due("word 1, three in row", end(x, 1), 3, 3, 3, 0, 6, 0);
    tell(x, 0, 0, 100, WORD, 99);
    due("word 99", end(x, 1), 3, 4, 3, 0, 7, 0);
    tell(x, 0, 0, 101, HEARD, 60);
    due("CONFIRMED of the house", x.end(1, 3), 60);
    tell(x, 0, 0, 102, HEARD, 59);
    due("CONFIRMED falls not", x.end(1, 3), 60);
  }

  // ---- 4 place

  static void place() {
    MovedWays x = new MovedWays();
    for (int p : FAR) due("place(" + p + ", 0)", x.place(p, 0), UNKNOWN);
    due("place(5, 9)", x.place(5, 9), UNKNOWN);
    due("place(-1, 0)", x.place(-1, 0), UNKNOWN);
    for (int w : FAR) due("place(4, " + w + ")", x.place(4, w), OUTSIDE);
    due("place(0, 6)", x.place(0, 6), OUTSIDE);
    due("place(0, -1)", x.place(0, -1), OUTSIDE);
    x.open(4);
    due("opened", place(x, 4), 1, 0, 0, 0, 0, 0);
    x.arrive(0);
    due("challenged", place(x, 4), 1, 0, 0, 4, 8, 0);
    x.arrive(0);
    due("sure", place(x, 4), 1, 1, 0, 4, 8, 0);
    x.arrive(0);
    x.arrive(0);
    due("proved", place(x, 4), 1, 1, 1, 8, 8, 0);
    x.close(4);
    due("closed: it is not open, nothing else", place(x, 4), -1, 1, 1, 8, 8, 0);
    sizes();
  }

  /** GOT and PUT by each kind's size. */
  static void sizes() {
    int[] size = {5, 4, 4, 3, 2, 2};
    int sum = 0;
    MovedWays x = new MovedWays();
    for (int kind = 0; kind < 6; kind++) {
      tell(x, 0, 0, kind, kind, 0);
      sum += size[kind];
      due("GOT by kind " + kind, x.place(0, 3), sum);
    }
    due("PUT: heard, answer; 0 is retired not by itself", x.place(0, 4), 6);
    tell(x, 0, 0, 9, RETIRED, 1);
    due("PUT: named", x.place(0, 4), 9);
    x.speak();
    due("PUT: a word", x.place(0, 4), 14);
  }

  // ---- 5 letter

  static void letter() {
    MovedWays x = new MovedWays();
    due("letter(0, 0) on an empty road", x.letter(0, 0), UNKNOWN);
    x.say();
    x.speak();
    x.open(2);
    due("word", letter(x, 0), 0, 0, 0, 0, WORD, 0);
    due("the house's", letter(x, 1), 1, 0, -1, 0, WORD, 0);
    due("challenge", letter(x, 2), 0, 2, 1, 1, CHALLENGE, 0);
    for (int k : FAR) due("letter(" + k + ", 0)", x.letter(k, 0), UNKNOWN);
    due("letter(3, 7)", x.letter(3, 7), UNKNOWN);
    due("letter(-1, 0)", x.letter(-1, 0), UNKNOWN);
    for (int w : FAR) due("letter(0, " + w + ")", x.letter(0, w), OUTSIDE);
    due("letter(0, 6)", x.letter(0, 6), OUTSIDE);
    due("letter(0, -1)", x.letter(0, -1), OUTSIDE);
    x.lose(0);
    due("one number less", letter(x, 0), 1, 0, -1, 0, WORD, 0);
    due("one number less", letter(x, 1), 0, 2, 1, 1, CHALLENGE, 0);
    MovedWays y = fullRoad();
    due("letter(23, 3)", y.letter(23, 3), 23);
    due("letter(24, 3)", y.letter(24, 3), UNKNOWN);
  }

  // ---- 6 challenge

  static void challenge() {
    MovedWays x = new MovedWays();
    due("challenge(0, 0)", x.challenge(0, 0), UNKNOWN);
    ticks(x, 2);
    x.open(3);
    due("the guest's", challenge(x, 0), 0, 0, 3, 2, 0);
    ticks(x, 1);
    x.arrive(0);
    due("the house's", challenge(x, 1), 1, 0, 3, 3, 0);
    for (int k : FAR) due("challenge(" + k + ", 0)", x.challenge(k, 0), UNKNOWN);
    due("challenge(2, 9)", x.challenge(2, 9), UNKNOWN);
    for (int w : FAR) due("challenge(0, " + w + ")", x.challenge(0, w), OUTSIDE);
    due("challenge(0, 5)", x.challenge(0, 5), OUTSIDE);
    due("challenge(0, -1)", x.challenge(0, -1), OUTSIDE);
    challengeRowFull();
  }

  /** Four places of the house and two of the guest; the seventh pushes the first out, which is not answered any more. */
  static void challengeRowFull() {
    MovedWays x = new MovedWays();
    for (int p = 1; p < 5; p++) tell(x, p, 0, 1000 + p, CHALLENGE, 50);
    due("four", x.told(3), 4);
    due("first", challenge(x, 0), 1, 0, 1, 0, 0);
    loseAll(x);
    x.open(1);
    x.close(1);
    x.lose(0);
    x.arrive(0);
    x.arrive(0);
    x.open(1);
    x.close(1);
    due("six", x.told(3), 6);
    x.lose(0);
    x.arrive(0);
    x.arrive(0);
    due("name 3 is spare", x.name(3), 3);
    x.open(2);
    due("six still", x.told(3), 6);
    due("the first is gone", challenge(x, 0), 1, 1, 2, 0, 0);
    due("the last is new", challenge(x, 5), 0, 2, 2, 0, 0);
    tell(x, 1, 0, 5000, ANSWER, 0);
    due("its answer proves nothing", x.place(1, 2), 0);
    tell(x, 1, 0, 5001, CHALLENGE, 7);
    due("1 is challenged anew", challenge(x, 5), 1, 4, 1, 0, 0);
    due("and the next first gives way", challenge(x, 0), 1, 2, 3, 0, 0);
  }

  // ---- 7 held

  static void held() {
    MovedWays x = new MovedWays();
    due("held(0, 0)", x.held(0, 0), UNKNOWN);
    tell(x, 2, 0, 0, HEARD, 0);
    due("GOT 2, PUT 4", place(x, 2), -1, 0, 0, 2, 4, 0);
    x.speak();
    due("4 and 5 is more than 6: HELD", held(x, 0), 2, WORD, 0);
    due("PUT stays", place(x, 2), -1, 0, 0, 2, 4, 1);
    due("no number yet", x.end(1, 4), 1);
    tell(x, 2, 0, 1, ANSWER, 40);
    due("GOT 6: LET OUT", new int[] {x.told(2), x.place(2, 4), x.end(1, 4)}, 0, 9, 2);
    due("its number is given as it is sent", letter(x, x.told(1) - 1), 1, 2, -1, 1, WORD, 0);
    x.speak();
    due("14 is no more than 18", x.told(2), 0);
    x.speak();
    due("19 is more", x.told(2), 1);
    for (int k : FAR) due("held(" + k + ", 0)", x.held(k, 0), UNKNOWN);
    due("held(1, 9)", x.held(1, 9), UNKNOWN);
    for (int w : FAR) due("held(0, " + w + ")", x.held(0, w), OUTSIDE);
    due("held(0, 3)", x.held(0, 3), OUTSIDE);
    due("held(0, -1)", x.held(0, -1), OUTSIDE);
    heldExactly();
    heldOvertaken();
    heldFull();
    heldOfOtherPlaces();
    heldLetOutByProof();
  }

  /** No more than three times: just three times may go. */
  static void heldExactly() {
    MovedWays x = new MovedWays();
    tell(x, 1, 0, 0, CHALLENGE, 0);
    tell(x, 1, 0, 1, HEARD, 0);
    due("GOT 6, PUT 8", place(x, 1), -1, 0, 0, 6, 8, 0);
    x.speak();
    x.speak();
    due("18 is three times 6", place(x, 1), -1, 0, 0, 6, 18, 0);
    x.speak();
    due("not one more", place(x, 1), -1, 0, 0, 6, 18, 1);
  }

  /** A small letter may still go while a great one before it is held; but a held one stops those held behind it. */
  static void heldOvertaken() {
    MovedWays x = new MovedWays();
    tell(x, 1, 0, 0, HEARD, 0);
    x.speak();
    due("a word is held", new int[] {x.told(2), x.place(1, 4)}, 1, 4);
    tell(x, 0, 0, 1, RETIRED, 1);
    due("CURRENT is 0 again", x.told(5), 0);
    tell(x, 1, 0, 2, HEARD, 0);
    due("GOT 4, the word is out", place(x, 1), -1, 0, 0, 4, 9, 0);
    x.speak();
    due("14 is more than 12", place(x, 1), -1, 0, 0, 4, 9, 1);
    tell(x, 0, 0, 9, RETIRED, 2);
    tell(x, 1, 0, 3, NAMED, 0);
    due("GOT 7: out", place(x, 1), -1, 0, 0, 7, 14, 0);
    MovedWays y = new MovedWays();
    tell(y, 1, 0, 0, HEARD, 0);
    y.speak();
    tell(y, 1, 0, 2, WORD, 0);
    due("the letter's own HEARD overtakes the word: 2 is sent, then the word", letter(y, 1), 1, 1, -1, 1, HEARD, 1);
    due("then the word", letter(y, 2), 1, 1, -1, 2, WORD, 0);
    heldStops();
  }

  static void heldStops() {
    MovedWays x = new MovedWays();
    tell(x, 1, 0, 0, HEARD, 0);
    for (int i = 0; i < 3; i++) x.speak();
    due("three words are held", x.told(2), 3);
    tell(x, 1, 0, 1, HEARD, 0);
    due("12: one word goes, the second may not", new int[] {x.told(2), x.place(1, 4), x.held(0, 2)}, 2, 9, 1);
    MovedWays y = new MovedWays();
    tell(y, 1, 0, 0, HEARD, 0);
    y.speak();
    y.again(1);
    tell(y, 1, 0, 2, RETIRED, 1);
    due("GOT 4: NAMED 7 goes at once, then the word 12, the other is held", new int[] {y.told(2), y.place(1, 4)}, 1, 12);
    due("NAMED first", letter(y, 1), 1, 1, -1, 1, NAMED, 2);
  }

  static void heldFull() {
    MovedWays x = new MovedWays();
    tell(x, 1, 0, 0, HEARD, 0);
    for (int i = 0; i < 12; i++) x.speak();
    due("twelve", new int[] {x.told(2), x.held(0, 2), x.held(11, 2)}, 12, 0, 11);
    due("held(12, 0)", x.held(12, 0), UNKNOWN);
    due("speak", x.speak(), 12);
    due("the first is gone for good", new int[] {x.told(2), x.held(0, 2), x.held(11, 2), x.told(15)}, 12, 1, 12, 0);
    due("for place 1", x.place(1, 5), 12);
  }

  static void heldOfOtherPlaces() {
    MovedWays x = new MovedWays();
    tell(x, 1, 0, 0, HEARD, 0);
    x.speak();
    tell(x, 2, 0, 1, HEARD, 0);
    x.speak();
    tell(x, 1, 0, 2, HEARD, 0);
    due("only place 1 is let out", new int[] {x.told(2), x.held(0, 0), x.held(0, 2)}, 1, 2, 1);
    x.speak();
    x.speak();
    due("of 2, 1, 1", new int[] {x.held(0, 0), x.held(1, 0), x.held(2, 0)}, 2, 1, 1);
    due("how many", new int[] {x.place(1, 5), x.place(2, 5), x.place(0, 5)}, 2, 1, 0);
    tell(x, 1, 0, 3, HEARD, 0);
    due("one word goes, 19 would be more than 18", new int[] {x.told(2), x.held(0, 0), x.held(1, 0), x.place(1, 4)}, 2, 2, 1, 14);
  }

  static void heldLetOutByProof() {
    MovedWays x = new MovedWays();
    tell(x, 1, 0, 0, HEARD, 0);
    for (int i = 0; i < 6; i++) x.speak();
    tell(x, 4, 0, 1, ANSWER, 0);
    due("the answer came from 4, 1 is proved and let out", new int[] {x.told(2), x.place(1, 2), x.place(4, 2), x.told(3)}, 0, 1, 0, 0);
    due("PUT", x.place(1, 4), 34);
    x.speak();
    due("a proved place has no bound", new int[] {x.told(2), x.place(1, 4)}, 0, 39);
  }

  // ---- 8 name

  static void name() {
    MovedWays x = new MovedWays();
    for (int n : FAR) due("name(" + n + ")", x.name(n), UNKNOWN);
    due("name(-1)", x.name(-1), UNKNOWN);
    tell(x, 0, 0, 0, RETIRED, 1);
    due("retired and SPARE", x.name(1), 2);
    due("given, not yet told", x.name(2), 1);
    x.arrive(0);
    due("LIVE and SPARE", x.name(2), 3);
    due("SPARE", x.told(10), 2);
    x.open(3);
    due("retired, used", x.name(1), 0);
    due("the least was taken", x.place(3, 0), 1);
    due("its letters are dropped", x.arrive(0), 1);
    due("name(40)", x.name(40), UNKNOWN);
    nameFull();
  }

  static void nameFull() {
    MovedWays x = new MovedWays();
    for (int n = 1; n < 39; n++) {
      due("retire " + n, tell(x, 0, 0, n, RETIRED, n), 0);
      x.lose(0);
    }
    due("given", new int[] {x.told(8), x.told(9)}, 40, 2);
    due("name(39)", x.name(39), 1);
    due("name(40)", x.name(40), UNKNOWN);
    int put = x.place(0, 4);
    tell(x, 0, 0, 60, RETIRED, 39);
    due("no more are given", new int[] {x.told(8), x.told(9), x.name(39), x.told(1)}, 40, 1, 0, 0);
    due("no letter", x.place(0, 4), put);
    tell(x, 0, 0, 61, RETIRED, 39);
    tell(x, 0, 0, 62, RETIRED, 40);
    tell(x, 0, 0, 63, RETIRED, 99);
    tell(x, 0, 0, 64, RETIRED, 0);
    due("its own name stays", new int[] {x.told(8), x.told(9), x.name(0)}, 40, 1, 1);
  }

  // ---- 9 word

  static void word() {
    MovedWays x = new MovedWays();
    due("word(1, 0)", x.word(1, 0), UNKNOWN);
    x.say();
    due("said, not there", x.word(1, 0), 0);
    due("of the house", x.word(0, 0), UNKNOWN);
    x.arrive(0);
    due("there", x.word(1, 0), 1);
    tell(x, 0, 0, 9, WORD, 1);
    due("told by a stranger, not said", x.word(1, 1), UNKNOWN);
    x.say();
    due("said now, there already", x.word(1, 1), 1);
    for (int w : FAR) due("word(1, " + w + ")", x.word(1, w), UNKNOWN);
    for (int e : FAR) due("word(" + e + ", 0)", x.word(e, 0), UNKNOWN);
    due("word(2, 0)", x.word(2, 0), UNKNOWN);
    due("word(-1, 0)", x.word(-1, 0), UNKNOWN);
    due("word(1, -1)", x.word(1, -1), UNKNOWN);
    x.speak();
    arriveAll(x);
    due("word(0, 0)", x.word(0, 0), 1);
    due("word(0, 1)", x.word(0, 1), UNKNOWN);
  }

  // ---- 10 say

  static void say() {
    MovedWays x = new MovedWays();
    x.open(2);
    x.go(2);
    due("say", x.say(), 0);
    due("from CURRENT", letter(x, 2), 0, 2, 1, 2, WORD, 0);
    loseAll(x);
    for (int w = 1; w < 40; w++) { due("say", x.say(), w); loseAll(x); }
    refused(x, "say, the 41st", x::say, FULL);
    due("speak is free", x.speak(), 0);
  }

  // ---- 11 open

  static void open() {
    MovedWays x = new MovedWays();
    for (int p : FAR) refused(x, "open(" + p + ")", () -> x.open(p), UNKNOWN);
    refused(x, "open(5)", () -> x.open(5), UNKNOWN);
    refused(x, "open(-1)", () -> x.open(-1), UNKNOWN);
    refused(x, "open(0)", () -> x.open(0), NOT);
    due("open(4)", x.open(4), 1);
    due("no spare", new int[] {x.told(10), x.name(1)}, 0, 1);
    refused(x, "open(4) again", () -> x.open(4), NOT);
    refused(x, "open(3)", () -> x.open(3), NOT);
    x.arrive(0);
    x.arrive(0);
    due("sure", x.place(4, 1), 1);
    x.close(4);
    arriveAll(x);
    due("open again, a new name", x.open(4), 2);
    due("not sure, still proved of the house", place(x, 4), 2, 0, 0, 4, 8, 0);
    due("the challenge's value goes on", challenge(x, x.told(3) - 1), 0, 1, 4, 0, 0);
    openOnFullRoad();
    answerOfAnEarlierOpening();
  }

  static void openOnFullRoad() {
    MovedWays x = fullRoad();
    due("open on a full road", x.open(1), 1);
    due("challenge is in the row, its letter lost", new int[] {x.told(3), x.told(15), x.end(0, 4)}, 1, 1, 25);
  }

  /** A challenge is known by its value alone: the answer to it makes its place sure, whatever was opened since. */
  static void answerOfAnEarlierOpening() {
    MovedWays x = new MovedWays();
    x.open(1);
    x.arrive(0);
    x.close(1);
    due("the answer is for a closed place", x.arrive(0), 2);
    due("not sure", x.place(1, 1), 0);
    due("the challenge waits on", challenge(x, 0), 0, 0, 1, 0, 0);
  }

  // ---- 12 go

  static void go() {
    MovedWays x = new MovedWays();
    for (int p : FAR) refused(x, "go(" + p + ")", () -> x.go(p), UNKNOWN);
    refused(x, "go(5)", () -> x.go(5), UNKNOWN);
    refused(x, "go(0), CURRENT", () -> x.go(0), NOT);
    refused(x, "go(1), not open", () -> x.go(1), NOT);
    x.open(1);
    due("go(1)", x.go(1), 0);
    due("CURRENT, FORMER", new int[] {x.told(4), x.told(6)}, 1, 0);
    due("HEARD", letter(x, 1), 0, 1, 1, 1, HEARD, 0);
    refused(x, "go(1), CURRENT", () -> x.go(1), NOT);
    due("go(0)", x.go(0), 1);
    due("CURRENT, FORMER", new int[] {x.told(4), x.told(6)}, 0, 1);
    for (int i = 0; i < 2; i++) x.speak();
    x.arrive(3);
    x.arrive(3);
    due("go(1)", x.go(1), 0);
    due("with IN ROW", letter(x, x.told(1) - 1), 0, 1, 1, 5, HEARD, 2);
    houseFollows();
  }

  /** The house follows the newest letter that is more than a probe. */
  static void houseFollows() {
    MovedWays x = new MovedWays();
    for (int kind = CHALLENGE; kind <= NAMED; kind++) tell(x, 1, 0, 100 + kind, kind, 50);
    due("probes", new int[] {x.told(5), x.told(7), x.told(11)}, 0, -1, -1);
    due("challenged by the first", x.told(3), 1);
    tell(x, 1, 0, 10, RETIRED, 50);
    due("more than a probe", new int[] {x.told(5), x.told(7), x.told(11), x.told(3)}, 1, 0, 10, 1);
    tell(x, 0, 0, 9, HEARD, 0);
    due("an older one", new int[] {x.told(5), x.told(11)}, 1, 10);
    tell(x, 2, 0, 11, HEARD, 0);
    due("1 is not proved: BACK stays", new int[] {x.told(5), x.told(7), x.told(11), x.told(3)}, 2, 0, 11, 2);
    tell(x, 2, 0, 12, ANSWER, 1);
    due("2 is proved", x.place(2, 2), 1);
    tell(x, 1, 0, 13, WORD, 0);
    due("BACK is 2", new int[] {x.told(5), x.told(7)}, 1, 2);
    due("HEARD to the new one", letter(x, x.told(1) - 1), 1, 1, -1, x.end(1, 4) - 1, HEARD, 1);
    tell(x, 1, 0, 14, ANSWER, 0);
    tell(x, 2, 0, 15, HEARD, 0);
    due("BACK is 1, no challenge", new int[] {x.told(5), x.told(7), x.told(3)}, 2, 1, 0);
  }

  // ---- 13 close

  static void close() {
    MovedWays x = new MovedWays();
    for (int p : FAR) refused(x, "close(" + p + ")", () -> x.close(p), UNKNOWN);
    refused(x, "close(5)", () -> x.close(5), UNKNOWN);
    refused(x, "close(0), CURRENT", () -> x.close(0), NOT);
    refused(x, "close(1), not open", () -> x.close(1), NOT);
    x.open(1);
    due("close(1)", x.close(1), 1);
    due("RETIRED from CURRENT", letter(x, 1), 0, 0, 0, 1, RETIRED, 1);
    due("not open", x.place(1, 0), -1);
    due("name 1 is LIVE till the letter is there", x.name(1), 1);
    x.arrive(1);
    due("retired", new int[] {x.name(1), x.name(2), x.told(8)}, 0, 1, 3);
    due("NAMED", letter(x, 1), 1, 0, -1, 0, NAMED, 2);
    x.arrive(1);
    due("SPARE", x.name(2), 3);
    due("its challenge is dropped by 1", x.arrive(0), 1);
    refused(x, "close(1)", () -> x.close(1), NOT);
    x.open(1);
    x.go(1);
    due("close(0)", x.close(0), 0);
    due("from 1", letter(x, 2), 0, 1, 2, 4, RETIRED, 0);
    namedTwice();
  }

  /** A name is SPARE once: used, it is not taken again. */
  static void namedTwice() {
    MovedWays x = new MovedWays();
    tell(x, 0, 0, 0, RETIRED, 1);
    x.twice(0);
    x.arrive(0);
    x.open(1);
    x.open(2);
    due("no spare", x.told(10), 0);
    due("a doubled NAMED is dropped", x.arrive(0), 3);
    due("no spare", x.told(10), 0);
  }

  // ---- 14 speak

  static void speak() {
    MovedWays x = new MovedWays();
    due("speak", x.speak(), 0);
    due("to CURRENT", letter(x, 0), 1, 0, -1, 0, WORD, 0);
    due("PUT", x.place(0, 4), 5);
    loseAll(x);
    tell(x, 2, 0, 0, WORD, 0);
    due("CURRENT is 2", x.told(5), 2);
    due("challenge, then heard", new int[] {x.letter(0, 4), x.letter(1, 4), x.letter(0, 1), x.letter(1, 1)}, CHALLENGE, HEARD, 2, 2);
    due("speak", x.speak(), 1);
    due("to 2", letter(x, 2), 1, 2, -1, 3, WORD, 1);
    loseAll(x);
    for (int w = 2; w < 40; w++) due("speak", x.speak(), w);
    refused(x, "speak, the 41st", x::speak, FULL);
    due("say is free", x.say(), 0);
  }

  // ---- 15 again

  static void again() {
    MovedWays x = new MovedWays();
    for (int e : FAR) refused(x, "again(" + e + ")", () -> x.again(e), UNKNOWN);
    refused(x, "again(2)", () -> x.again(2), UNKNOWN);
    refused(x, "again(-1)", () -> x.again(-1), UNKNOWN);
    refused(x, "again(0)", () -> x.again(0), NOT);
    refused(x, "again(1)", () -> x.again(1), NOT);
    x.say();
    x.say();
    x.arrive(0);
    x.arrive(1);
    due("CONFIRMED", x.end(0, 3), 1);
    x.open(3);
    x.go(3);
    due("again(0)", x.again(0), 1);
    due("from CURRENT, a new number", letter(x, 3), 0, 3, 1, 4, WORD, 1);
    due("WORDS", x.end(0, 0), 2);
    arriveAll(x);
    refused(x, "again(0)", () -> x.again(0), NOT);
    x.speak();
    due("again(1)", x.again(1), 0);
    due("a new number", new int[] {x.letter(0, 3) + 1, x.letter(1, 5)}, x.letter(1, 3), 0);
    tell(x, 0, 0, 900, HEARD, 99);
    refused(x, "again(1), a stranger's HEARD", () -> x.again(1), NOT);
    MovedWays y = new MovedWays();
    tell(y, 1, 0, 0, HEARD, 0);
    y.speak();
    due("again(1)", y.again(1), 0);
    due("HELD, too", new int[] {y.told(2), y.held(0, 2), y.held(1, 2)}, 2, 0, 0);
  }

  // ---- 16 arrive

  static void arrive() {
    MovedWays x = new MovedWays();
    for (int k : FAR) refused(x, "arrive(" + k + ")", () -> x.arrive(k), UNKNOWN);
    refused(x, "arrive(0)", () -> x.arrive(0), UNKNOWN);
    x.say();
    refused(x, "arrive(1)", () -> x.arrive(1), UNKNOWN);
    refused(x, "arrive(-1)", () -> x.arrive(-1), UNKNOWN);
    due("arrive(0)", x.arrive(0), 0);
    due("HEARD", letter(x, 0), 1, 0, -1, 0, HEARD, 1);
    due("NEWEST", x.told(11), 0);
    x.speak();
    due("the guest takes a word", x.arrive(1), 0);
    due("HEARD of the guest", letter(x, 1), 0, 0, 0, 1, HEARD, 1);
    x.twice(1);
    due("it", x.arrive(1), 0);
    due("CONFIRMED of the house", x.end(1, 3), 1);
    due("its double", x.arrive(1), 3);
    guestHears();
    arriveOnFullRoad();
    droppedIsNotTaken();
    guestAnswers();
  }

  /** The guest's HEARD goes from its own CURRENT, with what it has itself, though the word came to another place. */
  static void guestHears() {
    MovedWays x = new MovedWays();
    for (int i = 0; i < 3; i++) { x.speak(); tell(x, 0, 0, 900 + i, WORD, i); }
    x.open(2);
    x.go(2);
    x.arrive(0);
    due("from 2", letter(x, x.told(1) - 1), 0, 2, 1, 2, HEARD, 1);
    for (int k = x.told(1) - 1; k >= 0; k--) if (x.letter(k, 0) == 0 || x.letter(k, 4) != WORD) x.lose(k);
    x.arrive(1);
    due("a gap", letter(x, 1), 0, 2, 1, 3, HEARD, 1);
    x.arrive(0);
    due("no gap", letter(x, 1), 0, 2, 1, 4, HEARD, 3);
  }

  static void arriveOnFullRoad() {
    MovedWays x = fullRoad();
    due("its own room is free for the HEARD", x.arrive(5), 0);
    due("24 again", new int[] {x.told(1), x.told(15), x.letter(23, 4), x.letter(23, 5)}, 24, 0, HEARD, 0);
  }

  /** What was dropped by its name did not use up its number, nor count. */
  static void droppedIsNotTaken() {
    MovedWays x = new MovedWays();
    due("no such name", tell(x, 3, 9, 4, WORD, 0), 1);
    due("no GOT, no word", new int[] {x.place(3, 3), x.end(1, 1), x.told(11), x.told(1)}, 0, 0, -1, 0);
    due("the number is free", tell(x, 3, 1, 4, WORD, 0), 0);
    due("GOT", new int[] {x.place(3, 3), x.end(1, 1), x.told(11), x.told(5)}, 5, 1, 4, 3);
    due("the challenge to 3 is dropped by 2", x.arrive(0), 2);
    x.twice(0);
    due("so is the HEARD", x.arrive(0), 2);
    x.open(3);
    due("its double is taken now", x.arrive(0), 0);
    due("CONFIRMED of the guest", x.end(0, 3), 1);
  }

  static void guestAnswers() {
    MovedWays x = new MovedWays();
    x.open(1);
    x.arrive(0);
    x.arrive(1);
    due("an ANSWER from the place", letter(x, 1), 0, 1, 1, 1, ANSWER, 0);
    due("it", x.arrive(1), 0);
    due("PROVED, the row has the guest's", new int[] {x.place(1, 2), x.told(3), x.challenge(0, 0)}, 1, 1, 0);
    due("CURRENT of the house is the old one", x.told(5), 0);
    x.arrive(0);
    due("SURE", new int[] {x.place(1, 1), x.told(3)}, 1, 0);
    MovedWays y = new MovedWays();
    due("a stranger's RETIRED", tell(y, 4, 0, 0, RETIRED, 1), 0);
    due("CURRENT 4, challenged, NAMED is more than 6: held", new int[] {y.told(5), y.told(3), y.told(1), y.held(0, 1), y.held(0, 2)}, 4, 1, 1, NAMED, 2);
    MovedWays z = new MovedWays();
    tell(z, 1, 0, 3, CHALLENGE, 60);
    due("an answer, then a challenge", new int[] {z.letter(0, 4), z.letter(0, 5), z.letter(1, 4), z.letter(1, 5)}, ANSWER, 60, CHALLENGE, 0);
    tell(z, 1, 0, 4, CHALLENGE, 61);
    due("an answer alone", new int[] {z.told(1), z.letter(2, 4), z.told(3)}, 3, ANSWER, 1);
    tell(z, 1, 0, 5, ANSWER, 1);
    due("another value", z.place(1, 2), 0);
    tell(z, 1, 0, 6, ANSWER, 0);
    due("its value", z.place(1, 2), 1);
    tell(z, 0, 0, 7, CHALLENGE, 62);
    due("a proved place is not challenged", z.told(3), 0);
  }

  // ---- 17 lose

  static void lose() {
    MovedWays x = new MovedWays();
    for (int k : FAR) refused(x, "lose(" + k + ")", () -> x.lose(k), UNKNOWN);
    refused(x, "lose(0)", () -> x.lose(0), UNKNOWN);
    for (int i = 0; i < 3; i++) x.say();
    refused(x, "lose(3)", () -> x.lose(3), UNKNOWN);
    due("lose(1)", x.lose(1), 2);
    due("0 and 2 are left", new int[] {x.letter(0, 5), x.letter(1, 5)}, 0, 2);
    due("lose(1)", x.lose(1), 1);
    due("lose(0)", x.lose(0), 0);
    due("lost", x.told(15), 3);
  }

  // ---- 18 twice

  static void twice() {
    MovedWays x = new MovedWays();
    for (int k : FAR) refused(x, "twice(" + k + ")", () -> x.twice(k), UNKNOWN);
    refused(x, "twice(0)", () -> x.twice(0), UNKNOWN);
    x.say();
    x.open(2);
    due("twice(0)", x.twice(0), 3);
    due("like it", letter(x, 2), 0, 0, 0, 0, WORD, 0);
    due("no number is used", x.end(0, 4), 2);
    x.speak();
    int put = x.place(0, 4);
    due("twice(3)", x.twice(3), 5);
    due("no PUT", x.place(0, 4), put);
    MovedWays y = fullRoad();
    refused(y, "twice(0) on a full road", () -> y.twice(0), FULL);
    refused(y, "twice(24) on a full road", () -> y.twice(24), UNKNOWN);
    y.lose(3);
    due("twice(22)", y.twice(22), 24);
    due("like it", letter(y, 23), 0, 0, 0, 23, WORD, 23);
    y.lose(23);
    due("twice(0)", y.twice(0), 24);
    due("like the first", letter(y, 23), 0, 0, 0, 0, WORD, 0);
  }

  // ---- 19 forge

  static void forge() {
    MovedWays x = new MovedWays();
    due("forge", x.forge(3, -1, 0, 0, 0), 1);
    due("least", letter(x, 0), 0, 3, -1, 0, 0, 0);
    due("forge", x.forge(4, 99, 9999, 5, 99), 2);
    due("most", letter(x, 1), 0, 4, 99, 9999, 5, 99);
    due("no number of the guest's", x.end(0, 4), 0);
    for (int v : FAR) {
      refused(x, "forge place " + v, () -> x.forge(v, 500, 0, 0, 0), UNKNOWN);
      refused(x, "forge name " + v, () -> x.forge(0, v, 0, 0, 0), OUTSIDE);
      refused(x, "forge number " + v, () -> x.forge(0, 0, v, 0, 0), OUTSIDE);
      refused(x, "forge kind " + v, () -> x.forge(0, 0, 0, v, 0), OUTSIDE);
      refused(x, "forge value " + v, () -> x.forge(0, 0, 0, 0, v), OUTSIDE);
    }
    refused(x, "forge place 5", () -> x.forge(5, 0, 0, 0, 0), UNKNOWN);
    refused(x, "forge place -1", () -> x.forge(-1, 0, 0, 0, 0), UNKNOWN);
    refused(x, "forge name 100", () -> x.forge(0, 100, 0, 0, 0), OUTSIDE);
    refused(x, "forge number -1", () -> x.forge(0, 0, -1, 0, 0), OUTSIDE);
    refused(x, "forge number 10000", () -> x.forge(0, 0, 10000, 0, 0), OUTSIDE);
    refused(x, "forge kind -1", () -> x.forge(0, 0, 0, -1, 0), OUTSIDE);
    refused(x, "forge kind 6", () -> x.forge(0, 0, 0, 6, 0), OUTSIDE);
    refused(x, "forge value -1", () -> x.forge(0, 0, 0, 0, -1), OUTSIDE);
    refused(x, "forge value 100", () -> x.forge(0, 0, 0, 0, 100), OUTSIDE);
    MovedWays y = fullRoad();
    refused(y, "forge on a full road", () -> y.forge(0, 0, 0, 0, 0), FULL);
    refused(y, "OUTSIDE goes before FULL", () -> y.forge(0, 0, 0, 6, 0), OUTSIDE);
    refused(y, "UNKNOWN goes before both", () -> y.forge(9, 0, 0, 6, 0), UNKNOWN);
    MovedWays z = new MovedWays();
    tell(z, 0, 0, 0, HEARD, 0);
    z.say();
    due("the guest's own number was used by a stranger", z.arrive(0), 3);
    tell(z, 0, 0, 9999, HEARD, 0);
    due("and the newest", z.told(11), 9999);
    due("once", tell(z, 0, 0, 9999, HEARD, 0), 3);
  }

  // ---- 20 tick

  static void tick() {
    MovedWays x = new MovedWays();
    due("tick", x.tick(), 0);
    due("NOW", x.told(0), 1);
    x.open(1);
    x.lose(0);
    due("tick", x.tick(), 1);
    due("tick", x.tick(), 1);
    due("not yet", x.told(1), 0);
    due("tick", x.tick(), 1);
    due("again", letter(x, 0), 0, 1, 1, 1, CHALLENGE, 0);
    due("TRIES 1", challenge(x, 0), 0, 0, 1, 4, 1);
    ticks(x, 3);
    due("TRIES 2", challenge(x, 0), 0, 0, 1, 7, 2);
    ticks(x, 2);
    due("two letters", x.told(1), 2);
    due("given up", x.tick(), 0);
    due("closed", place(x, 1), -1, 0, 0, 0, 0, 0);
    due("RETIRED from 0", letter(x, 2), 0, 0, 0, 3, RETIRED, 1);
    tickSure();
    tickGoesBack();
    tickStays();
    tickHouse();
    tickHeld();
    tickClosedPlace();
    tickBoth();
  }

  /** Those given up leave those behind them in the row; a place that is not CURRENT is forgotten without going back. */
  static void tickBoth() {
    MovedWays x = new MovedWays();
    tell(x, 1, 0, 500, CHALLENGE, 0);
    x.tick();
    tell(x, 2, 0, 501, HEARD, 0);
    x.open(3);
    ticks(x, 7);
    due("three in the row", x.told(3), 3);
    due("the first is given up", x.tick(), 2);
    due("SINCE and TRIES of the others", new int[] {x.challenge(0, 2), x.challenge(0, 3), x.challenge(1, 2), x.challenge(1, 3)}, 2, 7, 3, 7);
    due("1 is forgotten, the house stays at 2", new int[] {x.place(1, 3), x.told(5), x.place(2, 3)}, 0, 2, 2);
    due("both at once", x.tick(), 0);
    due("2 is forgotten, 3 closed", new int[] {x.told(5), x.place(2, 3), x.place(3, 0)}, 0, 0, -1);
  }

  static void tickSure() {
    MovedWays x = new MovedWays();
    x.open(1);
    x.arrive(0);
    x.arrive(0);
    due("SURE: the row has the house's alone", new int[] {x.told(3), x.challenge(0, 0)}, 1, 1);
    ticks(x, 9);
    due("the place stays open, the house forgot it", place(x, 1), 1, 1, 0, 0, 0, 0);
  }

  /** The guest's CURRENT was never sure: FORMER is gone to, then it is closed. */
  static void tickGoesBack() {
    MovedWays x = new MovedWays();
    x.open(2);
    x.go(2);
    loseAll(x);
    ticks(x, 8);
    loseAll(x);
    due("tick", x.tick(), 0);
    due("CURRENT, FORMER", new int[] {x.told(4), x.told(6)}, 0, 2);
    due("HEARD from 0", letter(x, 0), 0, 0, 0, 4, HEARD, 0);
    due("RETIRED from 0", letter(x, 1), 0, 0, 0, 5, RETIRED, 1);
    due("closed", x.place(2, 0), -1);
  }

  /** FORMER is not open: CURRENT stays open though it is not sure. */
  static void tickStays() {
    MovedWays x = new MovedWays();
    x.open(2);
    x.go(2);
    x.close(0);
    loseAll(x);
    ticks(x, 9);
    due("CURRENT", new int[] {x.told(3), x.told(4), x.place(2, 0), x.place(2, 1)}, 0, 2, 1, 0);
  }

  static void tickHouse() {
    MovedWays x = new MovedWays();
    tell(x, 3, 0, 0, HEARD, 0);
    x.speak();
    x.speak();
    tell(x, 4, 0, 1, CHALLENGE, 0);
    due("at 3", new int[] {x.told(5), x.told(7), x.told(2), x.told(3)}, 3, 0, 2, 2);
    loseAll(x);
    ticks(x, 3);
    due("3 may have 6: its challenge is held, 4's is sent", new int[] {x.told(1), x.letter(0, 1), x.told(2), x.held(2, 0), x.held(2, 1)}, 1, 4, 3, 3, CHALLENGE);
    ticks(x, 5);
    due("TRIES", new int[] {x.challenge(0, 4), x.challenge(1, 4)}, 2, 2);
    due("tick", x.tick(), 0);
    due("FORGOTTEN 3", place(x, 3), -1, 0, 0, 0, 0, 0);
    due("FORGOTTEN 4", place(x, 4), -1, 0, 0, 0, 0, 0);
    due("back", new int[] {x.told(5), x.told(7), x.told(2)}, 0, 0, 0);
    tell(x, 3, 0, 2, ANSWER, 0);
    due("an answer that is late", x.place(3, 2), 0);
  }

  /** A place that was proved meanwhile is not forgotten as another of its challenges ends. */
  static void tickHeld() {
    MovedWays x = new MovedWays();
    tell(x, 1, 0, 0, HEARD, 0);
    tell(x, 2, 0, 1, HEARD, 0);
    x.speak();
    tell(x, 1, 0, 2, ANSWER, 0);
    due("1 is proved, 2 CURRENT", new int[] {x.place(1, 2), x.told(5), x.told(2)}, 1, 2, 1);
    loseAll(x);
    ticks(x, 9);
    due("2 is forgotten, BACK is 0", new int[] {x.told(5), x.told(7), x.told(2), x.place(2, 3)}, 0, 0, 0, 0);
    due("1 is kept", place(x, 1), -1, 0, 1, 6, 4, 0);
  }

  /** A closed place's challenge goes again, without a name. */
  static void tickClosedPlace() {
    MovedWays x = new MovedWays();
    x.open(1);
    x.close(1);
    loseAll(x);
    ticks(x, 3);
    due("no name", letter(x, 0), 0, 1, -1, 2, CHALLENGE, 0);
    due("dropped by 1", x.arrive(0), 1);
    ticks(x, 6);
    due("given up", new int[] {x.told(3), x.told(1)}, 0, 1);
  }

  // ---- 21 drift

  static void drift() {
    MovedWays x = new MovedWays();
    for (int n : FAR) refused(x, "drift(" + n + ")", () -> x.drift(n), OUTSIDE);
    refused(x, "drift(0)", () -> x.drift(0), OUTSIDE);
    refused(x, "drift(21)", () -> x.drift(21), OUTSIDE);
    x.drift(1);
    due("THE SEED", x.told(19), 12345);
    driftByHand();
    // 12345 / 65536 is 0: an arrival on an empty road, which draws no more
    due("nothing came of it", new int[] {x.told(0), x.told(1), x.end(0, 0), x.end(1, 0)}, 0, 0, 0, 0);
  }

  /** Each draw by its own words, with the public calls. */
  static void driftByHand() {
    for (int seed = 0; seed < 3000; seed += 7) {
      MovedWays x = new MovedWays(), y = new MovedWays();
      long s = seed * 700001L % (1L << 31);
      x.seed((int) s);
      int times = 1 + seed % 5;
      for (int i = 0; i < times; i++) x.drift(20);
      for (int i = 0; i < 20 * times; i++) s = drawByHand(y, s);
      y.seed((int) s);
      due("drift from seed " + seed, all(x), all(y));
    }
  }

  /** THE SEED after one draw. */
  static long drawByHand(MovedWays y, long seed) {
    long s = (seed * 1103515245L + 12345L) % 2147483648L;
    int d = (int) (s / 65536 % 10);
    int n = d < 5 ? y.told(1) : d == 8 ? 5 : d == 9 ? 2 : 0;
    int k = 0;
    if (n > 0) { s = (s * 1103515245L + 12345L) % 2147483648L; k = (int) (s / 65536 % n); }
    if (d < 4 && n > 0) y.arrive(k);
    if (d == 4 && n > 0) y.lose(k);
    if (d == 5) y.say();
    if (d == 6) y.speak();
    if (d == 7) y.tick();
    if (d == 8 && y.place(k, 0) == NONE) y.open(k);
    else if (d == 8) y.go(k);
    if (d == 9) y.again(k);
    return s;
  }

  // ---- 22 write

  static void write() {
    MovedWays x = new MovedWays();
    for (int e : FAR) refused(x, "write(" + e + ", 99, 9)", () -> x.write(e, 99, 9), UNKNOWN);
    refused(x, "write(2, 0, 0)", () -> x.write(2, 0, 0), UNKNOWN);
    for (int w : FAR) refused(x, "write(0, " + w + ", 0)", () -> x.write(0, w, 0), OUTSIDE);
    refused(x, "write(0, 40, 0)", () -> x.write(0, 40, 0), OUTSIDE);
    refused(x, "write(0, -1, 0)", () -> x.write(0, -1, 0), OUTSIDE);
    refused(x, "write(0, 0, 2)", () -> x.write(0, 0, 2), OUTSIDE);
    refused(x, "write(0, 0, -1)", () -> x.write(0, 0, -1), OUTSIDE);
    for (int i = 0; i < 20; i++) due("write", x.write(i % 2, 39, 0), i + 1);
    refused(x, "write, the 21st", () -> x.write(0, 0, 0), FULL);
    refused(x, "write, OUTSIDE goes before FULL", () -> x.write(0, 40, 0), OUTSIDE);
    refused(x, "write, UNKNOWN goes before both", () -> x.write(3, 40, 0), UNKNOWN);
    due("WRONG", x.told(18), -1);
    tell(x, 0, 0, 0, WORD, 39);
    due("WRONG: the first of the house's", x.told(18), 1);
  }

  // ---- 23 tear

  static void tear() {
    MovedWays x = new MovedWays();
    due("tear", x.tear(), 0);
    x.write(0, 0, 1);
    x.write(0, 1, 0);
    due("WRONG", x.told(18), 0);
    due("tear", x.tear(), 2);
    due("empty", new int[] {x.told(17), x.told(18)}, 0, -1);
    due("write", x.write(1, 0, 0), 1);
    due("WRONG", x.told(18), -1);
  }

  // ---- 24 seed

  static void seed() {
    MovedWays x = new MovedWays();
    due("seed", x.seed(5), 0);
    due("seed", x.seed(2147483647), 5);
    due("told(19)", x.told(19), 2147483647);
    for (int v : new int[] {-1, -2, Integer.MIN_VALUE}) refused(x, "seed(" + v + ")", () -> x.seed(v), OUTSIDE);
    x.drift(1);
    long drawn = (2147483647L * 1103515245L + 12345L) % 2147483648L;
    due("the DRAW of 10", (int) (drawn / 65536 % 10), 9);
    due("and one of 2", x.seed(0), (int) ((drawn * 1103515245L + 12345L) % 2147483648L));
    due("told(19)", x.told(19), 0);
  }

  // ---- 25 keep, 26 goBack

  static void keep() {
    MovedWays x = new MovedWays();
    for (int i : FAR) refused(x, "keep(" + i + ")", () -> x.keep(i), UNKNOWN);
    refused(x, "keep(2)", () -> x.keep(2), UNKNOWN);
    refused(x, "keep(-1)", () -> x.keep(-1), UNKNOWN);
    due("keep(1)", x.keep(1), 1);
    due("the other was not kept", x.goBack(0), NOT);
    x.say();
    due("keep again", x.keep(1), 1);
    x.say();
    x.goBack(1);
    due("the newer one", x.end(0, 0), 1);
    x.say();
    due("the image is not what is so", new int[] {x.goBack(1), x.end(0, 0)}, 1, 1);
  }

  static void goBack() {
    MovedWays x = new MovedWays();
    for (int i : FAR) refused(x, "goBack(" + i + ")", () -> x.goBack(i), UNKNOWN);
    refused(x, "goBack(2)", () -> x.goBack(2), UNKNOWN);
    refused(x, "goBack(-1)", () -> x.goBack(-1), UNKNOWN);
    refused(x, "goBack(0)", () -> x.goBack(0), NOT);
    for (int run = 0; run < 40; run++) goBackFromDrift(run);
    bookIsNotKept();
    takenNumbersAreKept();
  }

  /** All that is so comes back, and goes on as it went before; each time a new object, so that none is asked too much. */
  static void goBackFromDrift(int run) {
    int[] was = all(drifted(run)), later = all(driftedOn(drifted(run)));
    for (int times = 1; times < 4; times++) {
      MovedWays x = drifted(run);
      x.keep(run % 2);
      for (int i = 0; i < times; i++) { driftedOn(x); due("goBack", x.goBack(run % 2), 1); }
      due("what was so", all(x), was);
      MovedWays y = drifted(run);
      y.keep(run % 2);
      for (int i = 0; i < times; i++) { driftedOn(y); y.goBack(run % 2); }
      due("goes on alike", all(driftedOn(y)), later);
    }
  }

  static MovedWays drifted(int run) {
    MovedWays x = new MovedWays();
    x.seed(run * 1000003);
    for (int i = 0; i < run % 9 + 1; i++) x.drift(20);
    tell(x, 1, 0, 3000 + run, HEARD, 3);
    tell(x, 1, 70, 3000 + run, HEARD, 3);
    x.lose(0);
    return x;
  }

  static MovedWays driftedOn(MovedWays x) {
    for (int i = 0; i < 6; i++) x.drift(20);
    return x;
  }

  static void bookIsNotKept() {
    MovedWays x = new MovedWays();
    x.write(1, 0, 1);
    x.keep(0);
    x.write(1, 1, 1);
    x.say();
    x.arrive(0);
    due("WRONG", new int[] {x.told(17), x.told(18)}, 2, 1);
    x.goBack(0);
    due("the book stays, judged anew", new int[] {x.told(17), x.told(18)}, 2, 0);
    x.tear();
    x.goBack(0);
    due("the book stays torn", x.told(17), 0);
  }

  static void takenNumbersAreKept() {
    MovedWays x = new MovedWays();
    x.keep(0);
    tell(x, 0, 0, 9999, HEARD, 0);
    x.keep(1);
    x.goBack(0);
    due("not taken then", tell(x, 0, 0, 9999, HEARD, 0), 0);
    x.goBack(1);
    due("taken then", tell(x, 0, 0, 9999, HEARD, 0), 3);
    due("NEWEST then", x.told(11), 9999);
    x.goBack(0);
    due("NEWEST then", x.told(11), -1);
    x.open(1);
    x.goBack(0);
    due("SPARE then", new int[] {x.told(10), x.name(1), x.place(1, 0), x.told(3), x.end(0, 5)}, 1, 3, -1, 0, 0);
    due("counts, too", new int[] {x.told(12), x.told(13), x.told(14), x.told(15)}, 0, 0, 0, 0);
  }

  static void run(String name, Runnable test) { promise = name; test.run(); }

  public static void main(String[] args) {
    run("1 a new object", PromiseTests::newObject);
    run("2 told", PromiseTests::told);
    run("3 end", PromiseTests::end);
    run("4 place", PromiseTests::place);
    run("5 letter", PromiseTests::letter);
    run("6 challenge", PromiseTests::challenge);
    run("7 held", PromiseTests::held);
    run("8 name", PromiseTests::name);
    run("9 word", PromiseTests::word);
    run("10 say", PromiseTests::say);
    run("11 open", PromiseTests::open);
    run("12 go", PromiseTests::go);
    run("13 close", PromiseTests::close);
    run("14 speak", PromiseTests::speak);
    run("15 again", PromiseTests::again);
    run("16 arrive", PromiseTests::arrive);
    run("17 lose", PromiseTests::lose);
    run("18 twice", PromiseTests::twice);
    run("19 forge", PromiseTests::forge);
    run("20 tick", PromiseTests::tick);
    run("21 drift", PromiseTests::drift);
    run("22 write", PromiseTests::write);
    run("23 tear", PromiseTests::tear);
    run("24 seed", PromiseTests::seed);
    run("25 keep", PromiseTests::keep);
    run("26 goBack", PromiseTests::goBack);
    System.out.println(wrong == 0 ? checks + " answers are as due" : wrong + " of " + checks + " answers are not as due");
    if (wrong != 0) System.exit(1);
  }
}
