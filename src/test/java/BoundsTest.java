import java.lang.reflect.Method;
import java.lang.reflect.Modifier;
import java.util.Arrays;
import java.util.Map;
import java.util.TreeMap;
import java.util.function.IntToLongFunction;

/**
 * For each sentence of the document that names a bound a test at the bound and just beyond it, on each side.
 * A test is a method named after its promise and its case: p07_fifteenthClause is of promise 7.
 */
public final class BoundsTest {
  private static final int MIN = Integer.MIN_VALUE;
  private static final int MAX = Integer.MAX_VALUE;
  private static final int PROMISES = 30;

  private static String test = "";
  private static int wrong = 0;
  private static int answers = 0;

  public static void main(String[] args) throws Exception {
    Map<String, Method> tests = new TreeMap<>();
    for (Method m : BoundsTest.class.getDeclaredMethods()) {
      if (m.getName().matches("p\\d\\d_.*") && Modifier.isStatic(m.getModifiers())) {
        tests.put(m.getName(), m);
      }
    }
    boolean[] covered = new boolean[PROMISES + 1];
    for (Map.Entry<String, Method> entry : tests.entrySet()) {
      test = entry.getKey();
      covered[Integer.parseInt(test.substring(1, 3))] = true;
      entry.getValue().invoke(null);
    }
    for (int promise = 1; promise <= PROMISES; promise++) {
      test = "promise " + promise;
      due("has a test", covered[promise], true);
    }
    System.out.println(wrong == 0 ? tests.size() + " tests, " + answers + " answers, all as due" : wrong + " answers are not as due");
    if (wrong != 0) {
      System.exit(1);
    }
  }

  private static void tell(boolean right, String text) {
    answers++;
    if (!right) {
      wrong++;
      System.out.println(test + ": " + text);
    }
  }

  private static void due(String call, long got, long want) {
    tell(got == want, call + " answered " + got + ", due is " + want);
  }

  private static void due(String call, boolean got, boolean want) {
    due(call, got ? 1 : 0, want ? 1 : 0);
  }

  /** Refused just below least, just above most and at the ends of int; not refused at least and at most. */
  private static void range(String call, int least, int most, long refusal, IntToLongFunction ask) {
    for (int n : new int[] {MIN, least - 1, most + 1, MAX}) {
      due(call + " with " + n, ask.applyAsLong(n), refusal);
    }
    for (int n : new int[] {least, most}) {
      long got = ask.applyAsLong(n);
      tell(got != refusal, call + " with " + n + " is refused: " + got);
    }
  }

  private static void feed(HayVotes v, int... bytes) {
    for (int at = 0; at < bytes.length; at += 20) {
      int[] m = new int[5];
      for (int i = 0; i < 20; i++) {
        m[i / 4] = m[i / 4] << 8 | (at + i < bytes.length ? bytes[at + i] & 255 : ' ');
      }
      v.feed(m[0], m[1], m[2], m[3], m[4]);
    }
  }

  private static int law(HayVotes v, String text) {
    feed(v, text.chars().toArray());
    return v.law(text.length());
  }

  private static int read(String text) {
    return law(new HayVotes(), text);
  }

  private static HayVotes with(String law) {
    HayVotes v = new HayVotes();
    tell(law(v, law) > 0, "no law: " + law);
    return v;
  }

  /** With stacks of HAY 100, COLOUR by their number modulo 5, on squares 2 apart, and hungry cows at 0 0. */
  private static HayVotes with(String law, int stacks, int cows) {
    HayVotes v = with(law);
    for (int s = 0; s < stacks; s++) {
      v.stack(s % 5 * 2, s / 5 * 2, s % 5, 100, 0, 0);
    }
    for (int c = 0; c < cows; c++) {
      v.cow(0, 0, false, 1);
    }
    return v;
  }

  /** Stack 0 has burnt, stack 1 has joined stack 2's place in the row: 2 is gone into 1; 3 stands. One cow. */
  private static HayVotes withGoneOnes() {
    HayVotes v = with("e9(1=1);g99(k=0)");
    v.stack(0, 0, 0, 5, 1, 1);
    v.stack(4, 4, 1, 6, 2, 2);
    v.stack(5, 4, 1, 7, 3, 3);
    v.stack(9, 9, 2, 8, 4, 4);
    v.days(6);
    v.storm(1);
    v.cow(0, 0, false, 1);
    return v;
  }

  /** How much a cow would eat by an E. */
  private static int value(String e) {
    return with("e" + e + "(1=1)", 1, 1).would(0, 0);
  }

  private static boolean holds(String c) {
    return with("e7(" + c + ")", 1, 1).would(0, 0) == 7;
  }

  /** One stack, number 0, of COLOUR 0 on 0 0, whose HEAT has come to what is told. */
  private static HayVotes heated(int heat) {
    HayVotes v = with("g" + heat + "-x(1=1)", 1, 1);
    v.days(6);
    return v;
  }

  // ---- promise 1

  static void p01_noStacksCowsLawOrTape() {
    HayVotes v = new HayVotes();
    int[] dues = {0, 0, 0, 0, 0, 1, 0, -1, -1};
    for (int what = 0; what < dues.length; what++) {
      due("count(" + what + ")", v.count(what), dues[what]);
    }
    for (int k = 0; k < 5; k++) {
      due("votes(" + k + ")", v.votes(k), 0);
    }
  }

  static void p01_theSeedIs1() {
    HayVotes v = new HayVotes();
    due("count(5)", v.count(5), 1);
    v.draw(1);
    due("X then", v.count(5), 25173 + 13849);
  }

  static void p01_nothingIsKept() {
    due("undo()", new HayVotes().undo(), false);
  }

  static void p01_withoutALawNothingIsEatenOrHotter() {
    HayVotes v = new HayVotes();
    v.stack(0, 0, 0, 9, 9, 9);
    v.cow(0, 0, false, 9);
    due("would(0, 0)", v.would(0, 0), 0);
    due("chooses(0)", v.chooses(0), -1);
    due("days(20)", v.days(20), 0);
    due("HEAT", v.stackIs(0, 5), 0);
    due("LAST VOTE", v.cowIs(0, 3), -2);
  }

  static void p01_eachObjectIsItsOwn() {
    HayVotes v = with("e9(1=1)", 3, 2);
    HayVotes other = new HayVotes();
    due("count(1) of the other", other.count(1), 0);
    other.stack(0, 0, 0, 5, 0, 0);
    due("HAY of the first", v.stackIs(0, 2), 100);
    due("CLAUSES of the other", other.count(3), 0);
  }

  // ---- promise 2

  private static int stackWith(HayVotes v, int argument, int n) {
    int[] a = {5, 5, 2, 50, 20, 30};
    a[argument] = n;
    return v.stack(a[0], a[1], a[2], a[3], a[4], a[5]);
  }

  private static void stackBounds(int argument, String name, int most, int what, IntToLongFunction shown) {
    range("stack, " + name, 0, most, -1, n -> stackWith(new HayVotes(), argument, n));
    for (int n : new int[] {0, most}) {
      HayVotes v = new HayVotes();
      due("stack, " + name + " " + n, stackWith(v, argument, n), 0);
      due(name + " then", v.stackIs(0, what), shown.applyAsLong(n));
    }
  }

  static void p02_x0To9() {
    stackBounds(0, "x", 9, 0, n -> 50 + n);
  }

  static void p02_y0To9() {
    stackBounds(1, "y", 9, 0, n -> 10 * n + 5);
  }

  static void p02_colour0To4() {
    stackBounds(2, "COLOUR", 4, 1, n -> n);
  }

  static void p02_hay0To999() {
    stackBounds(3, "HAY", 999, 2, n -> n);
  }

  static void p02_clover0To99() {
    stackBounds(4, "CLOVER", 99, 3, n -> n);
  }

  static void p02_damp0To99() {
    stackBounds(5, "DAMP", 99, 4, n -> n);
  }

  static void p02_heatIs0AtFirstAndItStands() {
    HayVotes v = new HayVotes();
    v.stack(0, 0, 0, 0, 0, 0);
    due("HEAT", v.stackIs(0, 5), 0);
    due("stands", v.stackIs(0, 6), 1);
  }

  static void p02_twelveStacks() {
    HayVotes v = new HayVotes();
    for (int s = 0; s < 12; s++) {
      due("stack " + s, v.stack(s % 10, s / 10, 0, 1, 0, 0), s);
    }
    due("a 13th", v.stack(9, 9, 0, 1, 0, 0), -1);
    due("count(1)", v.count(1), 12);
  }

  static void p02_twelveStacksBurntOnesToo() {
    HayVotes v = with("g99(k=0)", 11, 0);
    v.days(6);
    due("standing", v.count(6), 8);
    due("the 12th", v.stack(0, 0, 1, 1, 0, 0), 11);
    due("a 13th", v.stack(9, 9, 1, 1, 0, 0), -1);
  }

  static void p02_twelveStacksJoinedOnesToo() {
    HayVotes v = new HayVotes();
    for (int s = 0; s < 10; s++) {
      v.stack(s, 0, 0, 1, 0, 0);
    }
    due("storm(9)", v.storm(9), 9);
    due("the 11th", v.stack(1, 0, 0, 1, 0, 0), 10);
    due("the 12th", v.stack(2, 0, 0, 1, 0, 0), 11);
    due("a 13th", v.stack(3, 0, 0, 1, 0, 0), -1);
  }

  static void p02_takenSquare() {
    for (int[] square : new int[][] {{0, 0}, {9, 0}, {0, 9}, {9, 9}, {5, 4}}) {
      HayVotes v = new HayVotes();
      v.stack(square[0], square[1], 0, 1, 0, 0);
      due("on the same square", v.stack(square[0], square[1], 4, 9, 9, 9), -2);
      due("count(1)", v.count(1), 1);
    }
  }

  static void p02_squaresBesideATakenOne() {
    HayVotes v = new HayVotes();
    v.stack(5, 4, 0, 1, 0, 0);
    due("x less", v.stack(4, 4, 0, 1, 0, 0), 1);
    due("x more", v.stack(6, 4, 0, 1, 0, 0), 2);
    due("y less", v.stack(5, 3, 0, 1, 0, 0), 3);
    due("y more", v.stack(5, 5, 0, 1, 0, 0), 4);
    due("x and y the other way round", v.stack(4, 5, 0, 1, 0, 0), 5);
  }

  static void p02_takenSquareWithAWrongNumberIsNone() {
    int[] most = {9, 9, 4, 999, 99, 99};
    HayVotes v = new HayVotes();
    v.stack(5, 5, 2, 50, 20, 30);
    for (int argument = 2; argument < 6; argument++) {
      due("below, argument " + argument, stackWith(v, argument, -1), -1);
      due("above, argument " + argument, stackWith(v, argument, most[argument] + 1), -1);
      due("right, argument " + argument, stackWith(v, argument, most[argument]), -2);
    }
  }

  /** The document leaves the order of the two open: 12 that are there go first. */
  static void p02_takenSquareWhen12AreThereIsNone() {
    HayVotes v = with("e9(1=1)", 12, 0);
    due("stack on a taken square", v.stack(0, 0, 0, 1, 0, 0), -1);
    HayVotes w = with("e9(1=1)", 11, 0);
    due("with 11", w.stack(0, 0, 0, 1, 0, 0), -2);
  }

  static void p02_squareOfABurntOneIsFree() {
    HayVotes v = withGoneOnes();
    due("stack", v.stack(0, 0, 3, 1, 0, 0), 4);
    due("a second one there", v.stack(0, 0, 3, 1, 0, 0), -2);
  }

  static void p02_squareOfAJoinedOneIsFree() {
    HayVotes v = withGoneOnes();
    due("on the lower one's", v.stack(4, 4, 3, 1, 0, 0), -2);
    due("on the other one's", v.stack(5, 4, 3, 1, 0, 0), 4);
    due("a second one there", v.stack(5, 4, 3, 1, 0, 0), -2);
  }

  // ---- promise 3

  static void p03_x0To9() {
    range("cow, x", 0, 9, -1, n -> new HayVotes().cow(n, 5, false, 5));
    HayVotes v = new HayVotes();
    v.cow(0, 5, false, 5);
    v.cow(9, 5, false, 5);
    due("SQUARE", v.cowIs(0, 0), 50);
    due("SQUARE", v.cowIs(1, 0), 59);
  }

  static void p03_y0To9() {
    range("cow, y", 0, 9, -1, n -> new HayVotes().cow(5, n, false, 5));
    HayVotes v = new HayVotes();
    v.cow(5, 0, false, 5);
    v.cow(5, 9, false, 5);
    due("SQUARE", v.cowIs(0, 0), 5);
    due("SQUARE", v.cowIs(1, 0), 95);
  }

  static void p03_hunger1To9() {
    for (boolean bull : new boolean[] {false, true}) {
      range("cow, HUNGER", 1, 9, -1, n -> new HayVotes().cow(5, 5, bull, n));
      HayVotes v = new HayVotes();
      v.cow(5, 5, bull, 1);
      v.cow(5, 5, bull, 9);
      due("HUNGER", v.cowIs(0, 2), 1);
      due("HUNGER", v.cowIs(1, 2), 9);
    }
  }

  static void p03_votes1And9() {
    HayVotes v = new HayVotes();
    v.cow(0, 0, false, 9);
    v.cow(0, 0, true, 1);
    due("VOTES of a cow", v.cowIs(0, 1), 1);
    due("VOTES of a bull", v.cowIs(1, 1), 9);
  }

  static void p03_sixteenCows() {
    HayVotes v = new HayVotes();
    for (int c = 0; c < 16; c++) {
      due("cow " + c, v.cow(0, 0, c % 2 == 0, 1), c);
    }
    due("a 17th", v.cow(0, 0, false, 1), -1);
    due("count(2)", v.count(2), 16);
  }

  static void p03_manyOnOneSquareWithAStack() {
    HayVotes v = new HayVotes();
    v.stack(3, 3, 0, 1, 0, 0);
    due("cow on a stack's square", v.cow(3, 3, false, 1), 0);
    due("another one there", v.cow(3, 3, false, 1), 1);
    due("a stack on a cow's square", v.stack(3, 4, 0, 1, 0, 0), 1);
  }

  static void p03_atFirstNoTasteNoLastVote() {
    HayVotes v = new HayVotes();
    v.cow(0, 0, false, 1);
    for (int k = 0; k < 5; k++) {
      due("TASTE for " + k, v.cowIs(0, 10 + k), 0);
    }
    due("LAST VOTE", v.cowIs(0, 3), -2);
  }

  // ---- promise 4

  static void p04_cowThereIs() {
    due("no cow at all", new HayVotes().taste(0, 0, 1), false);
    for (int cows : new int[] {1, 2, 15, 16}) {
      HayVotes v = with("e9(1=1)", 1, cows);
      range("taste, COW of " + cows, 0, cows - 1, 0, n -> v.taste(n, 0, 1) ? 1 : 0);
    }
  }

  static void p04_colour0To4() {
    HayVotes v = with("e9(1=1)", 1, 1);
    range("taste, COLOUR", 0, 4, 0, n -> v.taste(0, n, 5) ? 1 : 0);
    int[] dues = {5, 0, 0, 0, 5};
    for (int k = 0; k < 5; k++) {
      due("TASTE for " + k, v.cowIs(0, 10 + k), dues[k]);
    }
  }

  static void p04_tasteMinus9To9() {
    HayVotes v = with("e9(1=1)", 1, 1);
    range("taste, n", -9, 9, 0, n -> v.taste(0, 2, n) ? 1 : 0);
    for (int n = -9; n <= 9; n++) {
      due("taste " + n, v.taste(0, 2, n), true);
      due("TASTE", v.cowIs(0, 12), n);
    }
  }

  // ---- promise 5

  static void p05_day0To999() {
    range("salt, DAY", 0, 999, 0, n -> with("e9(1=1)", 1, 0).salt(0, n) ? 1 : 0);
    for (int day : new int[] {0, 999}) {
      HayVotes v = with("e9(1=1)", 1, 0);
      v.salt(0, day);
      due("count(7)", v.count(7), 0);
      due("count(8)", v.count(8), day);
    }
  }

  static void p05_stackThereIs() {
    due("no stack at all", new HayVotes().salt(0, 0), false);
    for (int stacks : new int[] {1, 2, 11, 12}) {
      HayVotes v = with("e9(1=1)", stacks, 0);
      for (int n : new int[] {MIN, -2, stacks, 12, MAX}) {
        due("salt(" + n + ", 0) of " + stacks, v.salt(n, 0), false);
      }
      due("the first", v.salt(0, 0), true);
      due("the last", v.salt(stacks - 1, 0), true);
      due("count(7)", v.count(7), stacks - 1);
    }
  }

  static void p05_noneWithAnyDay() {
    for (int day : new int[] {MIN, -1, 0, 999, 1000, MAX}) {
      HayVotes v = with("es(1=1)", 1, 1);
      v.salt(0, 0);
      due("salt(-1, " + day + ")", v.salt(-1, day), true);
      due("count(7)", v.count(7), -1);
      due("count(8)", v.count(8), -1);
      due("s", v.would(0, 0), 0);
    }
    due("without a stack", new HayVotes().salt(-1, 0), true);
  }

  static void p05_goneOnes() {
    HayVotes v = withGoneOnes();
    due("a burnt one", v.salt(0, 0), false);
    due("one that stands", v.salt(1, 0), true);
    due("a joined one", v.salt(2, 0), false);
    due("count(7)", v.count(7), 1);
  }

  static void p05_inPlaceOfTheOneBefore() {
    HayVotes v = with("es(1=1)", 2, 1);
    v.salt(0, 0);
    due("s of 0", v.would(0, 0), 1);
    v.salt(1, 0);
    due("s of 0 then", v.would(0, 0), 0);
    due("s of 1", v.would(0, 1), 1);
    v.salt(1, 1);
    due("from another DAY on", v.would(0, 1), 0);
  }

  static void p05_fromADayOn() {
    HayVotes v = with("es(1=1)", 2, 1);
    v.salt(0, 2);
    int[] dues = {0, 0, 1, 1};
    for (int day = 0; day < 4; day++) {
      due("s on DAY " + day, v.would(0, 0), dues[day]);
      due("s of another one", v.would(0, 1), 0);
      v.days(1);
    }
  }

  static void p05_fromDay999On() {
    HayVotes v = with("es(1=1)", 1, 1);
    v.salt(0, 999);
    for (int i = 0; i < 49; i++) {
      v.days(20);
    }
    v.days(18);
    due("s on DAY 998", v.would(0, 0), 0);
    v.days(1);
    due("THE DAY", v.count(0), 999);
    due("s on DAY 999", v.would(0, 0), 1);
    v.days(1);
    due("s on DAY 1000", v.would(0, 0), 1);
  }

  static void p05_fromADayThatWas() {
    HayVotes v = with("es(1=1)", 1, 1);
    v.days(5);
    v.salt(0, 4);
    due("s", v.would(0, 0), 1);
    v.salt(0, 6);
    due("s ahead of its DAY", v.would(0, 0), 0);
  }

  // ---- promise 6

  static void p06_220Bytes() {
    HayVotes v = new HayVotes();
    for (int i = 1; i <= 11; i++) {
      due("meal " + i, v.feed(0, 0, 0, 0, 0), 20 * i);
    }
    due("a 12th", v.feed(0, 0, 0, 0, 0), -1);
    due("count(4)", v.count(4), 220);
    due("a 13th", v.feed(MIN, MAX, -1, 0, 1), -1);
  }

  static void p06_roomAgainWhenEmptied() {
    HayVotes v = with("e9(1=1)", 1, 0);
    for (int i = 0; i < 12; i++) {
      v.feed(0, 0, 0, 0, 0);
    }
    v.check(0, 0);
    due("count(4)", v.count(4), 0);
    due("feed", v.feed(0, 0, 0, 0, 0), 20);
  }

  static void p06_theRefusedMealIsNotThere() {
    HayVotes v = with("e9(1=1)", 1, 0);
    for (int i = 0; i < 11; i++) {
      v.feed(0, 0, 0, 0, 0);
    }
    v.feed(1, 1, 1, 1, 1);
    for (int c = 0; c < 16; c++) {
      v.cow(0, 0, false, 1);
    }
    due("16 numbers of 0", v.check(0, 16), -1);
  }

  static void p06_theHighestByteFirst() {
    HayVotes v = new HayVotes();
    v.feed('n' << 24 | '(' << 16 | 'h' << 8 | '=', '1' << 24 | ')' << 16, 0, 0, 0);
    due("law(6)", v.law(6), 1);
  }

  static void p06_intsInTheirOrder() {
    for (int at = 0; at < 5; at++) {
      HayVotes v = with("e9(1=1)", 1, 5);
      v.feed(at == 0 ? 7 : 0, at == 1 ? 7 : 0, at == 2 ? 7 : 0, at == 3 ? 7 : 0, at == 4 ? 7 : 0);
      due("the number at " + at, v.check(0, 5), at);
    }
  }

  static void p06_bytesOf0To255() {
    for (int b : new int[] {0, 1, 127, 128, 254, 255}) {
      HayVotes v = with("e9(1=1)", 1, 1);
      feed(v, 0, b, 0);
      due("a word of STACK " + b, v.salted(1, 0), b == 0 ? 11 : b == 255 ? 0 : -2);
    }
  }

  static void p06_behindTheTape() {
    HayVotes v = new HayVotes();
    feed(v, "n(h=1);n(h=2);n(h=3)".chars().toArray());
    feed(v, ";e1(1=1)            ".chars().toArray());
    due("count(4)", v.count(4), 40);
    due("law(28)", v.law(28), 4);
  }

  // ---- promise 7: n, the tape, the text before

  private static final String LONGEST = "e" + "1+".repeat(96) + "11(1=1)";

  private static HayVotes withTape(String text, int meals) {
    HayVotes v = new HayVotes();
    feed(v, text.chars().toArray());
    while (v.count(4) < 20 * meals) {
      v.feed(0, 0, 0, 0, 0);
    }
    return v;
  }

  static void p07_n1To200() {
    range("law", 1, 200, -1, n -> {
      HayVotes v = withTape(LONGEST, 11);
      int answer = v.law(n);
      return n == 1 && answer == -1001 ? 0 : answer;
    });
    due("200 bytes", withTape(LONGEST, 11).law(200), 1);
    due("199 bytes", withTape(LONGEST, 11).law(199), -1199);
    due("the one byte of e", withTape(LONGEST, 11).law(1), -1001);
  }

  static void p07_notMoreThanTheTapeHas() {
    due("of an empty tape", new HayVotes().law(1), -1);
    for (int meals = 1; meals <= 9; meals++) {
      HayVotes v = withTape("", meals);
      due("one more than it has", v.law(20 * meals + 1), -1);
      due("the tape stays", v.count(4), 20 * meals);
      due("as many as it has", v.law(20 * meals), -1000);
      due("empty then", v.count(4), 0);
    }
  }

  static void p07_theTapeStaysIfNone() {
    HayVotes v = withTape("n(h=1)", 1);
    for (int n : new int[] {MIN, -1, 0, 21, 200, 201, MAX}) {
      due("law(" + n + ")", v.law(n), -1);
      due("count(4)", v.count(4), 20);
    }
    due("law(6)", v.law(6), 1);
  }

  static void p07_emptyThen() {
    HayVotes v = withTape("n(h=1)", 11);
    due("law(6)", v.law(6), 1);
    due("count(4)", v.count(4), 0);
    HayVotes w = withTape("n(h=1", 11);
    due("a FAULT", w.law(5), -1005);
    due("count(4)", w.count(4), 0);
  }

  static void p07_inPlaceOfTheOneBefore() {
    HayVotes v = with("n(k=0);n(k=1);e9(1=1);g3(1=1)", 2, 1);
    due("count(3)", v.count(3), 4);
    due("another law", law(v, "e5(1=1)"), 1);
    due("count(3)", v.count(3), 1);
    due("would(0, 0)", v.would(0, 0), 5);
    v.days(1);
    due("HEAT", v.stackIs(0, 5), 0);
  }

  static void p07_theTextBeforeStaysAtAFault() {
    String[] faults = {"x", "e8(1=1);", "e8(1=1);g50(1=1);q", "e8(1=1)x", "e123456(1=1)", "n(1=1);".repeat(14) + "n(1=1)", "e8(1=1);n(((((((1=1)))))))"};
    for (String text : faults) {
      HayVotes v = with("e5(1=1);g3(1=1)", 1, 1);
      tell(law(v, text) < -999, "no FAULT: " + text);
      due("count(3)", v.count(3), 2);
      due("would(0, 0)", v.would(0, 0), 5);
      v.days(1);
      due("HEAT", v.stackIs(0, 5), 3);
    }
  }

  static void p07_noLawAtAFaultOfTheFirst() {
    HayVotes v = new HayVotes();
    due("a FAULT", law(v, "e8(1=1);"), -1008);
    due("count(3)", v.count(3), 0);
    v.stack(0, 0, 0, 9, 0, 0);
    v.cow(0, 0, false, 1);
    due("would(0, 0)", v.would(0, 0), 0);
  }

  // ---- promise 7: clauses

  static void p07_clauses1To14() {
    for (String clause : new String[] {"n(h=1)", "e1(h=1)", "g1(h=1)"}) {
      for (int n = 1; n <= 14; n++) {
        HayVotes v = new HayVotes();
        due(n + " of " + clause, law(v, (clause + ";").repeat(n - 1) + clause), n);
        due("count(3)", v.count(3), n);
      }
    }
  }

  static void p07_fifteenthClauseAtItsLetter() {
    String fourteen = "n(h=1);".repeat(14);
    for (String fifteenth : new String[] {"n(h=1)", "e1(h=1)", "g1(h=1)", "n", "e", "g", "n;", "e123456", "n((((((("}) {
      due("a 15th " + fifteenth, read(fourteen + fifteenth), -4098);
    }
  }

  static void p07_fifteenthClauseThatCantStandThere() {
    String fourteen = "n(h=1);".repeat(14);
    for (String fifteenth : new String[] {"", ";", "h", "(", " ", "N(h=1)", "1"}) {
      due("a 15th " + fifteenth, read(fourteen + fifteenth), -1098);
    }
  }

  static void p07_aFaultAheadOfTheFifteenthClause() {
    due("in the 14th", read("n(h=1);".repeat(13) + "n(h=);n(h=1)"), -1095);
    due("no ; behind the 14th", read("n(h=1);".repeat(13) + "n(h=1)n(h=1)"), -1097);
    due("six digits in the first", read("n(h=100000);" + "n(h=1);".repeat(14)), -2009);
  }

  static void p07_theLastClauseIsUsed() {
    due("the 14th", with("e1(1=2);".repeat(13) + "e6(1=1)", 1, 1).would(0, 0), 6);
    due("the 14th of n", with("e6(1=1);" + "n(1=2);".repeat(12) + "n(1=1)", 1, 1).would(0, 0), 0);
  }

  // ---- promise 7: digits

  static void p07_oneToFiveDigits() {
    for (String number : new String[] {"0", "9", "10", "99999", "00000", "00001"}) {
      due("in an E " + number, read("e" + number + "(1=1)"), 1);
      due("in a C " + number, read("n(" + number + "=" + number + ")"), 1);
    }
  }

  static void p07_sixthDigit() {
    due("in an E", read("e123456(1=1)"), -2006);
    due("of zeros", read("e000000(1=1)"), -2006);
    due("in an [E]", read("e[123456](1=1)"), -2007);
    due("behind a sign", read("e1+123456(1=1)"), -2008);
    due("left in a C", read("n(123456=1)"), -2007);
    due("right in a C", read("n(1=123456)"), -2009);
    due("a seventh, too", read("n(1=1234567)"), -2009);
    due("at the end", read("e999999"), -2006);
  }

  static void p07_anotherSignInPlaceOfTheSixthDigit() {
    due("a letter", read("e12345h(1=1)"), -1006);
    due("a [", read("e12345[1](1=1)"), -1006);
    due("the end", read("e12345"), -1006);
    due("a sign that can stand there", read("e12345+1(1=1)"), 1);
    due("/ and : stand beside the digits", read("e1:(1=1)"), -1002);
  }

  // ---- promise 7: what is open in one another

  private static String nested(String open, String close, int n, String middle) {
    return open.repeat(n) + middle + close.repeat(n);
  }

  static void p07_sixRoundOnes() {
    due("six", read("n" + nested("(", ")", 6, "1=1")), 1);
    due("seven", read("n" + nested("(", ")", 7, "1=1")), -5007);
    due("the seventh at the end", read("n((((((("), -5007);
  }

  static void p07_sixSquareOnesInTheEOfAClause() {
    for (String kind : new String[] {"e", "g"}) {
      due("six", read(kind + nested("[", "]", 6, "1") + "(1=1)"), 1);
      due("seven", read(kind + nested("[", "]", 7, "1") + "(1=1)"), -5007);
      due("six on each side of a +", read(kind + nested("[", "]", 6, "1") + "+" + nested("[", "]", 6, "1") + "(1=1)"), 1);
      due("six ahead of six round ones", read(kind + nested("[", "]", 6, "1") + nested("(", ")", 6, "1=1")), 1);
    }
  }

  static void p07_fiveSquareOnesInTheRoundOneOfAClause() {
    due("five left", read("n(" + nested("[", "]", 5, "1") + "=1)"), 1);
    due("six left", read("n(" + nested("[", "]", 6, "1") + "=1)"), -5007);
    due("five right", read("n(1=" + nested("[", "]", 5, "1") + ")"), 1);
    due("six right", read("n(1=" + nested("[", "]", 6, "1") + ")"), -5009);
    due("five on both sides", read("n(" + nested("[", "]", 5, "1") + "=" + nested("[", "]", 5, "1") + ")"), 1);
  }

  static void p07_fiveBangsInTheRoundOneOfAClause() {
    due("five", read("n(!!!!!1=1)"), 1);
    due("six", read("n(!!!!!!1=1)"), -5007);
    due("five and a (", read("n(!!!!!(1=1))"), -5007);
    due("five and a [", read("n(!!!!![1]=1)"), -5007);
    due("five and a [ on the right", read("n(!!!!!1=[1])"), -5009);
    due("four and a [ on the right", read("n(!!!!1=[1])"), 1);
  }

  static void p07_aBangIsOpenTillItsPieceEnds() {
    due("five, then five behind an &", read("n(!!!!!1=1&!!!!!1=1)"), 1);
    due("five, then six behind an &", read("n(!!!!!1=1&!!!!!!1=1)"), -5016);
    due("five, then a ( behind a |", read("n(!!!!!1=1|((((((1=1"), -5016);
    due("in a ( of its own", read("n(!(!1=1&!!!1=1))"), 1);
    due("one more", read("n(!(!1=1&!!!!1=1))"), -5012);
    due("a ! of a ( is open in it", read("n(!!!(!!1=1))"), -5007);
    due("closed with its (", read("n(!(!(!1=1))&!!!!!1=1)"), 1);
  }

  static void p07_mixedOnes() {
    due("( ! ( ! ( [", read("n(!(!([1]=1)))"), 1);
    due("( ! ( ! ( [ [", read("n(!(!([[1]]=1)))"), -5007);
    due("closed ones don't count", read("n((1=1)&(1=1)&(1=1)&(1=1)&(1=1)&(1=1)&(1=1)&(((((1=1))))))"), 1);
    due("closed [ don't count", read("e[1]+[1]+[1]+[1]+[1]+[1]+[1]+[[[[[[1]]]]]](1=1)"), 1);
  }

  static void p07_aSeventhThatCantStandThere() {
    due("a (", read("n((((((h(h=1"), -1008);
    due("a [", read("e[[[[[[1[1"), -1008);
    due("a !", read("n((((((h!"), -1008);
    due("a ! in an E", read("e[[[[[[!"), -1007);
    due("a ( in an E", read("e[[[[[[("), -1007);
  }

  // ---- promise 7: what can't stand there

  private static final String LETTERS = "hvwxkstdbu";
  private static final String DIGITS = "0123456789";
  private static final String FACTOR = "[" + DIGITS + LETTERS;
  private static final String PIECE = "!(" + FACTOR;
  private static final String SIGNS = "+-*/%";

  /** Behind a text that is right so far each byte but those that may come is a FAULT at its place. */
  private static void only(String text, String may) {
    for (int b = 0; b < 256; b++) {
      HayVotes v = new HayVotes();
      int[] bytes = Arrays.copyOf(text.chars().toArray(), text.length() + 1);
      bytes[text.length()] = b;
      feed(v, bytes);
      int place = may.indexOf(b) < 0 ? text.length() : text.length() + 1;
      due("byte " + b + " behind " + text, v.law(bytes.length), -1000 - place);
    }
  }

  static void p07_whatMayBeginAClause() {
    only("", "neg");
    only("n(h=1);", "neg");
    only("e1(h=1);", "neg");
    only("n(h=1)", ";");
  }

  static void p07_whatMayFollowTheLetterOfAClause() {
    only("n", "(");
    only("e", FACTOR);
    only("g", FACTOR);
  }

  static void p07_whatMayFollowInAnE() {
    only("e1", SIGNS + "(" + DIGITS);
    only("gh", SIGNS + "(");
    only("eh", SIGNS + "(");
    only("e12345+", FACTOR);
    only("eh%", FACTOR);
    only("e[", FACTOR);
    only("e[h", SIGNS + "]");
    only("e[1", SIGNS + "]" + DIGITS);
    only("e[h]", SIGNS + "(");
    only("e[[h]", SIGNS + "]");
  }

  static void p07_whatMayFollowInAC() {
    only("n(", PIECE);
    only("e1(", PIECE);
    only("n(!", PIECE);
    only("n((", PIECE);
    only("n(h=1&", PIECE);
    only("n(h=1|", PIECE);
    only("n(h", SIGNS + "<>=");
    only("n([h]", SIGNS + "<>=");
    only("n(1", SIGNS + "<>=" + DIGITS);
    only("n(h<", FACTOR);
    only("n(h>", FACTOR);
    only("n(h=", FACTOR);
    only("n((h=h", SIGNS + "&|)");
    only("n(((h=h)", "&|)");
    only("n((!(h=h)", "&|)");
  }

  static void p07_theEndIsAFaultWhereMoreMustCome() {
    String text = "e[h+12]*3%v(!(v<4)|w>[x]&k=5)";
    for (int n = 1; n < text.length(); n++) {
      due("the first " + n, read(text.substring(0, n)), -1000 - n);
    }
    due("all", read(text), 1);
    due("a ; and the end", read(text + ";"), -1000 - text.length() - 1);
  }

  static void p07_placesOf199And200() {
    String text = LONGEST.substring(0, 199);
    due("a fault at 199", read(text + "]"), -1199);
    due("the end at 200", read("e" + "1+".repeat(97) + "1(1=1"), -1200);
    due("a sixth digit at 199", read("e" + "1+".repeat(96) + "123456"), -2198);
  }

  static void p07_theFirstFaultFromTheLeft() {
    due("2 ahead of 5", read("e123456+[[[[[[[1"), -2006);
    due("5 ahead of 2", read("e[[[[[[[123456"), -5007);
    due("1 ahead of 2", read("e+123456"), -1001);
    due("2 ahead of 4", read("n(h=123456);" + "n(h=1);".repeat(14)), -2009);
    due("5 ahead of 1", read("n(((((((h"), -5007);
  }

  static void p07_noBlanks() {
    String text = "e1+h(v=2);n(h=1)";
    for (int at = 0; at <= text.length(); at++) {
      due("a blank at " + at, read(text.substring(0, at) + " " + text.substring(at)), -1000 - at);
    }
  }

  // ---- promise 8

  static void p08_cowThereIs() {
    due("no cow at all", with("e9(1=1)", 1, 0).would(0, 0), -1);
    for (int cows : new int[] {1, 15, 16}) {
      HayVotes v = with("e9(1=1)", 1, cows);
      range("would, COW of " + cows, 0, cows - 1, -1, n -> v.would(n, 0));
    }
  }

  static void p08_stackThereIs() {
    due("no stack at all", with("e9(1=1)", 0, 1).would(0, 0), -1);
    for (int stacks : new int[] {1, 11, 12}) {
      HayVotes v = with("e9(1=1)", stacks, 1);
      range("would, STACK of " + stacks, 0, stacks - 1, -1, n -> v.would(0, n));
    }
  }

  static void p08_goneOnes() {
    HayVotes v = withGoneOnes();
    int[] dues = {-1, 9, -1, 9};
    for (int s = 0; s < 4; s++) {
      due("would(0, " + s + ")", v.would(0, s), dues[s]);
    }
  }

  static void p08_e0To999() {
    String[] texts = {"0-65536*32768", "0-99999", "0-1", "0", "1", "998", "999", "1000", "99999", "65536*32767+65535"};
    int[] dues = {0, 0, 0, 0, 1, 998, 999, 999, 999, 999};
    for (int i = 0; i < texts.length; i++) {
      due("e" + texts[i], value(texts[i]), dues[i]);
    }
  }

  static void p08_theFirstWhoseCHoldsOrNone() {
    due("none holds", with("e3(1=2);e4(2=1)", 1, 1).would(0, 0), 0);
    due("the last holds", with("e3(1=2);e4(2=2)", 1, 1).would(0, 0), 4);
    due("both hold", with("e3(1=1);e4(2=2)", 1, 1).would(0, 0), 3);
    due("the first is 0", with("e0(1=1);e4(2=2)", 1, 1).would(0, 0), 0);
    due("no e at all", with("n(1=2);g4(2=2)", 1, 1).would(0, 0), 0);
  }

  static void p08_anyN() {
    due("the first of two", with("n(1=1);n(1=2);e4(1=1)", 1, 1).would(0, 0), 0);
    due("the second of two", with("n(1=2);e4(1=1);n(1=1)", 1, 1).would(0, 0), 0);
    due("neither", with("n(1=2);e4(1=1);n(2=1)", 1, 1).would(0, 0), 4);
    due("where e is 1", with("n(1=1);e1(1=1)", 1, 1).would(0, 0), 0);
    due("where e is 999", with("n(1=1);e999(1=1)", 1, 1).would(0, 0), 0);
  }

  static void p08_haySmallAndLarge() {
    HayVotes v = with("eh(1=1)", 0, 1);
    v.stack(0, 0, 0, 0, 0, 0);
    v.stack(0, 1, 1, 999, 0, 0);
    due("h 0", v.would(0, 0), 0);
    due("h 999", v.would(0, 1), 999);
  }

  static void p08_lettersAtTheirBounds() {
    String[] letters = {"v", "w", "k", "t+20", "d", "b", "u"};
    int[] least = {0, 0, 0, 11, 0, 1, 1};
    int[] most = {99, 99, 4, 29, 18, 9, 9};
    for (int i = 0; i < letters.length; i++) {
      HayVotes v = with("e" + letters[i] + "(1=1)");
      v.stack(0, 0, 0, 5, 0, 0);
      v.stack(9, 9, 4, 5, 99, 99);
      v.cow(0, 0, false, 1);
      v.cow(0, 0, true, 9);
      v.taste(0, 0, -9);
      v.taste(1, 4, 9);
      due(letters[i] + " least", v.would(0, 0), least[i]);
      due(letters[i] + " most", v.would(1, 1), most[i]);
    }
  }

  static void p08_heatUpTo499() {
    HayVotes v = with("ex(1=1);g499-x(1=1)", 1, 1);
    due("x at first", v.would(0, 0), 0);
    v.days(6);
    due("x of 499", v.would(0, 0), 499);
  }

  static void p08_theWayWithoutSign() {
    HayVotes v = with("ed(1=1)");
    v.stack(4, 4, 0, 5, 0, 0);
    int[][] squares = {{4, 4}, {3, 4}, {5, 4}, {4, 3}, {4, 5}, {0, 9}, {9, 0}};
    int[] dues = {0, 1, 1, 1, 1, 9, 9};
    for (int c = 0; c < squares.length; c++) {
      v.cow(squares[c][0], squares[c][1], false, 1);
      due("d from " + squares[c][0] + " " + squares[c][1], v.would(c, 0), dues[c]);
    }
  }

  static void p08_wrapsAbove() {
    due("the most, a bound above", value("65536*32767+65535"), 999);
    due("one more wraps", value("65536*32767+65535+1"), 0);
    due("in a C", holds("65536*32767+65535>0"), true);
    due("one more, in a C", holds("65536*32767+65535+1<0"), true);
    due("46340 times itself", holds("46340*46340>0"), true);
    due("46341 times itself", holds("46341*46341<0"), true);
    due("65536 times itself", holds("65536*65536=0"), true);
    due("and 5", value("65536*65536+5"), 5);
    // 9999800001 less twice 2^32 is 1409865409, which is 21512 times 65536 and 54977
    due("99999 times itself", holds("99999*99999=21512*65536+54977"), true);
  }

  static void p08_wrapsBelow() {
    due("the least is below 0", holds("65536*32768<0"), true);
    due("one less wraps", holds("65536*32768-1>0"), true);
    due("one less is the most", holds("65536*32768-1=65536*32767+65535"), true);
    due("0 less the least is the least", holds("0-65536*32768=65536*32768"), true);
    due("one less, as an E", value("65536*32768-1"), 999);
  }

  static void p08_leastThroughMinusOne() {
    due("/", holds("65536*32768/[0-1]=65536*32768"), true);
    due("%", holds("65536*32768%[0-1]=0"), true);
    due("as an E", value("65536*32768/[0-1]"), 0);
    due("% as an E", value("65536*32768%[0-1]+4"), 4);
  }

  static void p08_leastAndMostCompared() {
    due("<", holds("65536*32768<65536*32767+65535"), true);
    due(">", holds("65536*32767+65535>65536*32768"), true);
    due("=", holds("65536*32767+65535=65536*32768"), false);
    due("the least with 1", holds("65536*32768<1"), true);
    due("1 with the least", holds("1<65536*32768"), false);
  }

  static void p08_comparisonsAtTheirBound() {
    String[] cs = {"4<5", "5<5", "6<5", "4>5", "5>5", "6>5", "4=5", "5=5", "6=5"};
    boolean[] dues = {true, false, false, false, false, true, false, true, false};
    for (int i = 0; i < cs.length; i++) {
      due(cs[i], holds(cs[i]), dues[i]);
    }
  }

  static void p08_dividedTowards0() {
    due("7/2", value("7/2"), 3);
    due("-7/2", value("[0-7]/2+10"), 7);
    due("7/-2", value("7/[0-2]+10"), 7);
    due("-7/-2", value("[0-7]/[0-2]+10"), 13);
    due("7%2", value("7%2"), 1);
    due("-7%2", value("[0-7]%2+10"), 9);
    due("7%-2", value("7%[0-2]+10"), 11);
    due("-7%-2", value("[0-7]%[0-2]+10"), 9);
  }

  static void p08_fromTheLeftOn() {
    due("20-5-3", value("20-5-3"), 12);
    due("100/7/2", value("100/7/2"), 7);
    due("100%7*3", value("100%7*3"), 6);
    due("2*9%5", value("2*9%5"), 3);
    due("2+3*4", value("2+3*4"), 14);
    due("[2+3]*4", value("[2+3]*4"), 20);
    due("20-6/2-1", value("20-6/2-1"), 16);
  }

  static void p08_dividedByMinus1And0And1() {
    for (String sign : new String[] {"/", "%"}) {
      boolean quotient = sign.equals("/");
      due("by -1", value("20+6" + sign + "[0-1]"), quotient ? 14 : 20);
      due("by 0", value("20+6" + sign + "0"), 0);
      due("by 1", value("20+6" + sign + "1"), quotient ? 26 : 20);
      due("0 by 0", value("20+0" + sign + "0"), 0);
      due("by what comes to 0", value("20+6" + sign + "[3-3]"), 0);
      due("by a letter of 0", value("20+6" + sign + "v"), 0);
      due("by what wraps to 0", value("20+6" + sign + "[65536*65536]"), 0);
    }
  }

  static void p08_aRefusedEIs0AndNoOtherIsAsked() {
    due("e", with("e5+1/0(1=1);e7(1=1)", 1, 1).would(0, 0), 0);
    due("in a [E]", with("e5+[2+[1/0]](1=1);e7(1=1)", 1, 1).would(0, 0), 0);
    due("times 0", with("e5+0*[1/0](1=1);e7(1=1)", 1, 1).would(0, 0), 0);
    due("where its C does not hold", with("e5+1/0(1=2);e7(1=1)", 1, 1).would(0, 0), 7);
  }

  static void p08_aRefusedCDoesNotHold() {
    for (String c : new String[] {"1/0=0", "0=1/0", "1%0=0", "0%0=0", "[1/0]=0", "1/0<1", "1/0>1", "!1/0=0", "!!1/0=0", "!(1/0=0)", "(1/0=0)",
        "1/0=0|1=1", "1=1&1/0=0", "1=2|1/0=0|1=1", "(1/0=0)|1=1", "!(1=1&1/0=0)"}) {
      due(c, with("e5(" + c + ");e7(1=1)", 1, 1).would(0, 0), 7);
      due("n with " + c, with("n(" + c + ");e7(1=1)", 1, 1).would(0, 0), 7);
    }
  }

  static void p08_ofACAsMuchAsMatters() {
    for (String c : new String[] {"1=1|1/0=0", "1=2&1/0=0|1=1", "!(1=2&1/0=0)", "(1=1|1/0=0)&1=1", "1=1|1=1&1/0=0", "!(1=1|1/0=0)|1=1",
        "1=2&(1/0=0|1=1)|1=1", "1=2&1=1&1/0=0|1=1|1/0=0"}) {
      due(c, holds(c), true);
    }
    for (String c : new String[] {"1=2&1/0=0", "!(1=1|1/0=0)", "(1=2&1/0=0)&1/0=0", "1=1&1=2&1/0=0"}) {
      due(c, holds(c), false);
    }
  }

  // ---- promise 9

  static void p09_cowThereIs() {
    due("no cow at all", with("e9(1=1)", 1, 0).chooses(0), -1);
    for (int cows : new int[] {1, 15, 16}) {
      HayVotes v = with("e9(1=1)", 1, cows);
      range("chooses, COW of " + cows, 0, cows - 1, -1, n -> v.chooses(n));
    }
  }

  static void p09_noStack() {
    due("chooses(0)", with("e9(1=1)", 0, 1).chooses(0), -1);
  }

  static void p09_at0AtNone() {
    due("e 0", with("e0(1=1)", 2, 1).chooses(0), -1);
    due("e below 0", with("e0-1(1=1)", 2, 1).chooses(0), -1);
    due("e 1", with("e1(1=1)", 2, 1).chooses(0), 0);
    due("e 1 at the second only", with("ek(1=1)", 2, 1).chooses(0), 1);
  }

  static void p09_withHay() {
    HayVotes v = with("e9(1=1)", 0, 1);
    v.stack(0, 0, 0, 0, 0, 0);
    due("HAY 0", v.chooses(0), -1);
    v.stack(0, 1, 0, 1, 0, 0);
    due("HAY 1", v.chooses(0), 1);
  }

  static void p09_ofLikeOnesTheLowest() {
    due("all alike", with("e9(1=1)", 12, 1).chooses(0), 0);
    due("like ones from 1 on", with("e9(k=1);e8(1=1)", 12, 1).chooses(0), 1);
    due("like ones at the end", with("e9(d=8);e8(1=1)", 12, 1).chooses(0), 4);
    due("beyond its bound all are alike", with("e999+k(1=1)", 3, 1).chooses(0), 0);
  }

  static void p09_theMostIsLast() {
    HayVotes v = with("ev(1=1)", 0, 1);
    for (int s = 0; s < 12; s++) {
      v.stack(s % 10, s / 10, 0, 5, s, 0);
    }
    due("chooses(0)", v.chooses(0), 11);
  }

  static void p09_nForbids() {
    due("all", with("n(1=1);e9(1=1)", 3, 1).chooses(0), -1);
    due("the first", with("n(k=0);e9(1=1)", 3, 1).chooses(0), 1);
  }

  static void p09_goneOnes() {
    HayVotes v = withGoneOnes();
    due("neither the burnt nor the joined one", v.chooses(0), 1);
    law(v, "e9(1=1);n(k=1)");
    due("the one behind", v.chooses(0), 3);
  }

  // ---- promise 10

  static void p10_days1To20() {
    range("days", 1, 20, -1, n -> with("e9(1=1)", 1, 1).days(n));
    HayVotes v = with("e9(1=1)", 1, 1);
    due("days(1)", v.days(1), 1);
    due("THE DAY", v.count(0), 1);
    due("days(20)", v.days(20), 20);
    due("THE DAY", v.count(0), 21);
  }

  static void p10_emptyMeadow() {
    HayVotes v = new HayVotes();
    due("days(20)", v.days(20), 0);
    due("THE DAY", v.count(0), 20);
  }

  static void p10_hungerOrAllThatIsThere() {
    int[] hay = {0, 4, 5, 6};
    int[] eaten = {0, 4, 5, 5};
    for (int i = 0; i < hay.length; i++) {
      HayVotes v = with("e9(1=1)");
      v.stack(0, 0, 3, hay[i], 0, 0);
      v.cow(0, 0, true, 5);
      due("days(1) with HAY " + hay[i], v.days(1), eaten[i]);
      due("HAY then", v.stackIs(0, 2), hay[i] - eaten[i]);
      due("EATEN", v.eaten(0, 0), eaten[i]);
      due("COUNT", v.votes(3), hay[i] == 0 ? 0 : 9);
      due("LAST VOTE", v.cowIs(0, 3), hay[i] == 0 ? -2 : 3);
    }
  }

  static void p10_hungerNotHowMuchItWould() {
    HayVotes v = with("e1(1=1)");
    v.stack(0, 0, 0, 100, 0, 0);
    v.cow(0, 0, false, 9);
    due("e 1, HUNGER 9", v.days(1), 9);
    HayVotes w = with("e999(1=1)", 1, 1);
    due("e 999, HUNGER 1", w.days(1), 1);
  }

  static void p10_eachCowByNumbersAsItIsThen() {
    HayVotes v = with("e9(1=1)");
    v.stack(0, 0, 0, 5, 0, 0);
    v.stack(1, 0, 1, 5, 0, 0);
    v.cow(0, 0, false, 5);
    v.cow(0, 0, false, 4);
    v.cow(0, 0, false, 4);
    v.cow(0, 0, false, 4);
    due("days(1)", v.days(1), 10);
    int[] dues = {5, 4, 1, 0};
    int[] votes = {0, 1, 1, -2};
    for (int c = 0; c < 4; c++) {
      due("EATEN by " + c, v.eaten(-1, c), dues[c]);
      due("LAST VOTE of " + c, v.cowIs(c, 3), votes[c]);
    }
  }

  static void p10_theLastVoteStaysOnADayWithoutHay() {
    HayVotes v = with("e9(1=1)");
    v.stack(0, 0, 2, 1, 0, 0);
    v.cow(0, 0, false, 1);
    v.days(1);
    due("nothing more", v.days(20), 0);
    due("LAST VOTE", v.cowIs(0, 3), 2);
    due("COUNT", v.votes(2), 1);
  }

  static void p10_g0To99() {
    String[] texts = {"0-65536*32768", "0-1", "0", "1", "98", "99", "100", "99999", "65536*32767+65535", "5/0", "5%0"};
    int[] dues = {0, 0, 0, 1, 98, 99, 99, 99, 99, 0, 0};
    for (int i = 0; i < texts.length; i++) {
      HayVotes v = with("g" + texts[i] + "(1=1);g7(1=1)", 1, 1);
      v.days(1);
      due("HEAT by g" + texts[i], v.stackIs(0, 5), dues[i]);
    }
  }

  static void p10_gTheFirstWhoseCHoldsOrNone() {
    String[] laws = {"g3(1=2);g4(2=1)", "g3(1=2);g4(2=2)", "g3(1=1);g4(2=2)", "n(1=2);e5(1=1)", "g3(1/0=0);g4(1=1)"};
    int[] dues = {0, 4, 3, 0, 4};
    for (int i = 0; i < laws.length; i++) {
      HayVotes v = with(laws[i], 1, 1);
      v.days(1);
      due("HEAT by " + laws[i], v.stackIs(0, 5), dues[i]);
    }
  }

  static void p10_inGNoCowIsSeen() {
    for (String letter : new String[] {"t", "d", "b", "u"}) {
      HayVotes v = with("e9(1=1);g5+" + letter + "*10(1=1)");
      v.stack(3, 3, 2, 50, 0, 0);
      v.cow(9, 9, true, 9);
      v.taste(0, 2, 9);
      v.days(1);
      due("HEAT with " + letter, v.stackIs(0, 5), 5);
      due("as a divisor it is 0", law(v, "g5+7/" + letter + "(1=1)"), 1);
      v.days(1);
      due("HEAT with / " + letter, v.stackIs(0, 5), 5);
    }
  }

  static void p10_gIsAskedBehindTheCows() {
    HayVotes v = with("e9(1=1);gh(1=1)");
    v.stack(0, 0, 0, 9, 0, 0);
    v.cow(0, 0, false, 4);
    v.days(1);
    due("HEAT", v.stackIs(0, 5), 5);
  }

  static void p10_burnsAt500() {
    int[] heats = {499, 500, 501, 594};
    for (int heat : heats) {
      HayVotes v = with("g99(x<400);g" + heat + "-x(x<499)", 1, 0);
      v.days(5);
      due("it stands", v.stackIs(0, 6), 1);
      due("495", v.stackIs(0, 5), 495);
      v.days(1);
      due("stands with HEAT " + heat, v.stackIs(0, 6), heat < 500 ? 1 : 0);
      due("HAY", v.stackIs(0, 2), heat < 500 ? 100 : 0);
      due("HEAT", v.stackIs(0, 5), heat);
      due("count(6)", v.count(6), heat < 500 ? 1 : 0);
      v.days(20);
      due("HEAT stays", v.stackIs(0, 5), heat);
    }
  }

  static void p10_aBurntOneWasEatenAtOnItsLastDay() {
    HayVotes v = with("e9(1=1);g99(1=1)", 1, 1);
    due("six DAYS", v.days(6), 6);
    due("gone", v.stackIs(0, 6), 0);
    due("EATEN stays", v.eaten(0, 0), 6);
    due("no more", v.days(1), 0);
    due("COUNT stays", v.votes(0), 6);
    due("LAST VOTE stays", v.cowIs(0, 3), 0);
  }

  static void p10_theSaltOfTheDay() {
    HayVotes v = with("n(s=1);e9(1=1);gs(1=1)", 1, 1);
    v.salt(0, 2);
    due("DAYS 0, 1", v.days(2), 2);
    due("HEAT", v.stackIs(0, 5), 0);
    due("DAYS 2, 3", v.days(2), 0);
    due("HEAT", v.stackIs(0, 5), 2);
  }

  /** Each letter that a DAY changes, or that stands beside one, at numbers that have other bits than those before. */
  static void p10_manyDaysAreAsOneByOne() {
    for (int clover : new int[] {0, 1, 63, 64, 96, 99}) {
      for (int damp : new int[] {0, 1, 2, 33, 64, 99}) {
        HayVotes v = daysOf(clover, damp);
        HayVotes w = daysOf(clover, damp);
        String place = " with CLOVER " + clover + ", DAMP " + damp;
        int[] foreseen = new int[3];
        for (int s = 0; s < 3; s++) {
          foreseen[s] = v.run(6, 10 + s);
        }
        int hay = 0;
        for (int day = 0; day < 6; day++) {
          hay += w.days(1);
        }
        due("HAY eaten" + place, v.days(6), hay);
        for (int s = 0; s < 3; s++) {
          due("HAY of " + s + place, v.stackIs(s, 2), w.stackIs(s, 2));
          due("run, HAY of " + s + place, foreseen[s], w.stackIs(s, 2));
        }
      }
    }
  }

  private static HayVotes daysOf(int clover, int damp) {
    HayVotes v = with("e300-h+x*3+v-s*50(1=1);gw(1=1)");
    v.stack(0, 0, 0, 130, clover, 0);
    v.stack(2, 0, 1, 130, clover, damp);
    v.stack(4, 0, 2, 130, clover, damp / 2);
    v.cow(0, 0, false, 3);
    v.cow(0, 0, true, 1);
    v.salt(1, 3);
    return v;
  }

  static void p10_heatOfOneMoreIsSeenWithMuchClover() {
    for (int clover = 0; clover <= 99; clover++) {
      HayVotes v = with("e10+x*9+v*0(1=1);gw(1=1)");
      v.stack(0, 0, 0, 100, clover, 0);
      v.stack(2, 0, 1, 100, clover, 1);
      v.cow(0, 0, false, 1);
      due("days(3) with CLOVER " + clover, v.days(3), 3);
      due("VOTES of the first DAY", v.votes(0), 1);
      due("VOTES of the others", v.votes(1), 2);
    }
  }

  // ---- promise 11

  static void p11_days1To20() {
    range("run, n", 1, 20, -1, n -> with("e9(1=1)", 1, 1).run(n, 0));
    HayVotes v = with("e9(1=1)", 1, 1);
    due("run(1, 0)", v.run(1, 0), 1);
    due("run(20, 0)", v.run(20, 0), 20);
  }

  static void p11_what0To6And10On() {
    for (int stacks : new int[] {0, 1, 11, 12}) {
      HayVotes v = with("e9(1=1)", stacks, 1);
      for (int what : new int[] {MIN, -1, 7, 8, 9, 10 + stacks, 22, MAX}) {
        due("run(1, " + what + ") with " + stacks, v.run(1, what), -1);
      }
      for (int what = 0; what <= 4; what++) {
        due("run(1, " + what + ") with " + stacks, v.run(1, what), what == 0 && stacks > 0 ? 1 : 0);
      }
      due("who WINS", v.run(1, 5), stacks > 0 ? 0 : -2);
      due("who BURNS", v.run(1, 6), 0);
      if (stacks > 0) {
        due("HAY of the first", v.run(1, 10), 99);
        due("HAY of the last", v.run(1, 9 + stacks), stacks == 1 ? 99 : 100);
      }
    }
  }

  static void p11_winsWithMoreThanEachOther() {
    for (int ones = 0; ones <= 2; ones++) {
      HayVotes v = with("e10+t(1=1)", 5, 3);
      for (int c = 0; c < 3; c++) {
        v.taste(c, c < ones ? 1 : c < 2 ? 2 : 4, 5);
      }
      due("of three cows " + ones + " are for 1", v.run(1, 5), ones == 1 ? -2 : ones == 0 ? 2 : 1);
    }
    due("nobody votes", with("e0(1=1)", 5, 3).run(20, 5), -2);
  }

  static void p11_oneBullAgainstEightNineTen() {
    int[] dues = {1, -2, 0};
    for (int cows = 8; cows <= 10; cows++) {
      HayVotes v = with("e9(b=9&k=1);e9(b=1&k=0)");
      v.stack(0, 0, 1, 500, 0, 0);
      v.stack(1, 0, 0, 500, 0, 0);
      v.cow(0, 0, true, 1);
      for (int c = 0; c < cows; c++) {
        v.cow(0, 0, false, 1);
      }
      due("against " + cows, v.run(3, 5), dues[cows - 8]);
      due("votes of the bull", v.run(3, 1), 27);
      due("votes of the cows", v.run(3, 0), 3 * cows);
    }
  }

  static void p11_votesOfTheseDaysOnly() {
    HayVotes v = with("e9(1=1)", 1, 1);
    v.days(5);
    due("run(3, 0)", v.run(3, 0), 3);
    due("votes(0)", v.votes(0), 5);
  }

  static void p11_burnsOnTheLastDay() {
    HayVotes v = with("g99(k<2)", 4, 0);
    due("run(5, 6)", v.run(5, 6), 0);
    due("run(6, 6)", v.run(6, 6), 2);
    due("HAY ahead", v.run(5, 10), 100);
    due("HAY then", v.run(6, 10), 0);
    v.days(5);
    due("run(1, 6)", v.run(1, 6), 2);
    v.days(1);
    due("burnt before", v.run(20, 6), 0);
    due("HAY of a gone one", v.run(1, 10), 0);
  }

  static void p11_fromNowWithAllThatIsThere() {
    HayVotes v = with("e20-d+w+v+t(1=1)");
    v.stack(0, 0, 0, 50, 0, 0);
    v.stack(3, 4, 1, 50, 0, 0);
    v.cow(3, 4, false, 1);
    due("by d", v.run(1, 5), 1);
    v.stack(9, 9, 2, 50, 0, 12);
    due("by w", v.run(1, 5), 2);
    v.stack(9, 8, 3, 50, 12, 0);
    due("by v", v.run(1, 5), 3);
    v.taste(0, 0, 9);
    due("by t", v.run(1, 5), 0);
    v.taste(0, 4, 9);
    v.stack(2, 4, 4, 50, 0, 0);
    due("by t and d", v.run(1, 5), 4);
  }

  static void p11_fromNowWithTheSalt() {
    HayVotes v = with("n(s=1);e9(1=1)", 1, 1);
    v.days(3);
    v.salt(0, 5);
    due("run(2, 0)", v.run(2, 0), 2);
    due("run(3, 0)", v.run(3, 0), 2);
  }

  // ---- promise 12

  static void p12_stackThereIs() {
    due("no stack at all", new HayVotes().stackIs(0, 0), -1);
    for (int stacks : new int[] {1, 11, 12}) {
      HayVotes v = with("e9(1=1)", stacks, 0);
      range("stackIs, STACK of " + stacks, 0, stacks - 1, -1, n -> v.stackIs(n, 1));
    }
  }

  static void p12_what0To6() {
    HayVotes v = with("e9(1=1)", 1, 0);
    range("stackIs, what", 0, 6, -1, n -> v.stackIs(0, n));
  }

  static void p12_leastAndMost() {
    HayVotes v = new HayVotes();
    v.stack(0, 0, 0, 0, 0, 0);
    v.stack(9, 9, 4, 999, 99, 99);
    int[] least = {0, 0, 0, 0, 0, 0, 1};
    int[] most = {99, 4, 999, 99, 99, 0, 1};
    for (int what = 0; what < 7; what++) {
      due("stackIs(0, " + what + ")", v.stackIs(0, what), least[what]);
      due("stackIs(1, " + what + ")", v.stackIs(1, what), most[what]);
    }
  }

  static void p12_squareIs10YAndX() {
    HayVotes v = new HayVotes();
    v.stack(9, 0, 0, 0, 0, 0);
    v.stack(0, 9, 0, 0, 0, 0);
    due("x 9", v.stackIs(0, 0), 9);
    due("y 9", v.stackIs(1, 0), 90);
  }

  /** What the document does not take from a gone one is still told. */
  static void p12_goneOnes() {
    HayVotes v = withGoneOnes();
    int[] burnt = {0, 0, 0, 1, 1, 594, 0};
    int[] joined = {45, 1, 0, 3, 3, 0, 0};
    for (int what = 0; what < 7; what++) {
      due("a burnt one, " + what, v.stackIs(0, what), burnt[what]);
      due("a joined one, " + what, v.stackIs(2, what), joined[what]);
    }
  }

  // ---- promise 13

  static void p13_cowThereIs() {
    due("no cow at all", new HayVotes().cowIs(0, 0), -1000);
    for (int cows : new int[] {1, 15, 16}) {
      HayVotes v = with("e9(1=1)", 0, cows);
      range("cowIs, COW of " + cows, 0, cows - 1, -1000, n -> v.cowIs(n, 1));
    }
  }

  static void p13_what0To3And10To14() {
    HayVotes v = with("e9(1=1)", 0, 1);
    range("cowIs, what", 0, 3, -1000, n -> v.cowIs(0, n));
    range("cowIs, what of TASTE", 10, 14, -1000, n -> v.cowIs(0, n));
    for (int what = 4; what < 10; what++) {
      due("cowIs(0, " + what + ")", v.cowIs(0, what), -1000);
    }
  }

  static void p13_lastVoteNoneAndEachColour() {
    for (int k = 0; k < 5; k++) {
      HayVotes v = with("e9(k=" + k + ")", 5, 1);
      due("none", v.cowIs(0, 3), -2);
      v.days(1);
      due("COLOUR " + k, v.cowIs(0, 3), k);
    }
  }

  static void p13_tasteOfMinus1IsNoRefusal() {
    HayVotes v = with("e9(1=1)", 0, 1);
    v.taste(0, 0, -1);
    v.taste(0, 4, -9);
    due("TASTE", v.cowIs(0, 10), -1);
    due("TASTE", v.cowIs(0, 14), -9);
  }

  // ---- promise 14

  static void p14_stackThereIsOrAll() {
    for (int stacks : new int[] {0, 1, 12}) {
      HayVotes v = with("e9(1=1)", stacks, 1);
      for (int s : new int[] {MIN, -2, stacks, 12, MAX}) {
        due("eaten(" + s + ", 0) of " + stacks, v.eaten(s, 0), -2);
        due("eaten(" + s + ", -1) of " + stacks, v.eaten(s, -1), -2);
      }
      due("of all", v.eaten(-1, 0), 0);
      if (stacks > 0) {
        due("of the last", v.eaten(stacks - 1, 0), 0);
      }
    }
  }

  static void p14_cowThereIsOrAll() {
    for (int cows : new int[] {0, 1, 16}) {
      HayVotes v = with("e9(1=1)", 1, cows);
      for (int c : new int[] {MIN, -2, cows, 16, MAX}) {
        due("eaten(0, " + c + ") of " + cows, v.eaten(0, c), -2);
        due("eaten(-1, " + c + ") of " + cows, v.eaten(-1, c), -2);
      }
      due("by all", v.eaten(0, -1), 0);
      if (cows > 0) {
        due("by the last", v.eaten(0, cows - 1), 0);
      }
    }
  }

  static void p14_nothingOfNone() {
    due("eaten(-1, -1)", new HayVotes().eaten(-1, -1), 0);
    due("eaten(0, -1)", new HayVotes().eaten(0, -1), -2);
    due("eaten(-1, 0)", new HayVotes().eaten(-1, 0), -2);
  }

  static void p14_sumsOfAll() {
    HayVotes v = with("e10+t(1=1)", 12, 16);
    int[][] ate = new int[12][16];
    for (int c = 0; c < 16; c++) {
      v.taste(c, c % 5, 9);
      ate[c % 5][c] += 3;
    }
    due("days(3)", v.days(3), 48);
    for (int s = 0; s < 12; s++) {
      due("eaten(" + s + ", -1)", v.eaten(s, -1), Arrays.stream(ate[s]).sum());
      for (int c = 0; c < 16; c++) {
        due("eaten(" + s + ", " + c + ")", v.eaten(s, c), ate[s][c]);
      }
    }
    for (int c = 0; c < 16; c++) {
      due("eaten(-1, " + c + ")", v.eaten(-1, c), 3);
    }
    due("eaten(-1, -1)", v.eaten(-1, -1), 48);
  }

  // ---- promise 15

  static void p15_colour0To4() {
    HayVotes v = with("e9(1=1)", 5, 1);
    range("votes", 0, 4, -1, n -> v.votes(n));
  }

  static void p15_eachColour() {
    for (int k = 0; k < 5; k++) {
      HayVotes v = with("e9(k=" + k + ")", 5, 1);
      v.cow(0, 0, true, 1);
      v.days(2);
      for (int other = 0; other < 5; other++) {
        due("votes(" + other + ")", v.votes(other), other == k ? 20 : 0);
      }
    }
  }

  // ---- promise 16

  /** The cow eats where CLOVER is most; the rival, COLOUR 0, is the lowest and has what is told. */
  private static HayVotes rivalry(int rival, int... own) {
    HayVotes v = with("ev(1=1)");
    v.stack(0, 9, 0, 100, rival, 0);
    for (int i = 0; i < own.length; i++) {
      v.stack(i, 0, 1, 100, own[i], 0);
    }
    v.cow(5, 5, false, 1);
    return v;
  }

  static void p16_colour0To4() {
    HayVotes v = rivalry(10, 9);
    range("campaign, COLOUR", 0, 4, -3, n -> v.campaign(n, 1, -1));
  }

  static void p16_days1To6() {
    HayVotes v = rivalry(10, 9);
    range("campaign, n", 1, 6, -3, n -> v.campaign(1, n, -1));
  }

  static void p16_whatNoneTo4() {
    for (int what : new int[] {MIN, -2, 5, MAX}) {
      due("campaign(1, 1, " + what + ")", rivalry(10, 9, 9, 9, 9).campaign(1, 1, what), -3);
    }
    int[] dues = {2, 0, 0, 0, 2, 2};
    for (int what = -1; what <= 4; what++) {
      due("campaign(1, 1, " + what + ")", rivalry(10, 9, 9, 9, 9).campaign(1, 1, what), dues[what + 1]);
    }
  }

  static void p16_theWhatThOfThoseThereAre() {
    for (int places = 0; places <= 5; places++) {
      int[] own = new int[places];
      Arrays.fill(own, 20);
      HayVotes v = rivalry(10, own);
      for (int what = 0; what < 4; what++) {
        due("the " + what + "-th of " + places, v.campaign(1, 1, what), what < places ? 0 : -3);
      }
      due("pence with " + places, v.campaign(1, 1, -1), places == 0 ? -2 : 0);
      due("spread with " + places, v.campaign(1, 1, 4), places == 0 ? -2 : 0);
    }
  }

  static void p16_noSuchStackThoughNoneWins() {
    HayVotes v = rivalry(50, 9);
    due("the first", v.campaign(1, 1, 0), -2);
    due("the second", v.campaign(1, 1, 1), -3);
    due("pence", v.campaign(1, 1, -1), -2);
  }

  static void p16_0To3More() {
    int[] own = {12, 11, 10, 9, 8, 7, 6};
    int[] dues = {0, 0, 1, 2, 3, -2, -2};
    for (int i = 0; i < own.length; i++) {
      due("from " + own[i], rivalry(10, own[i]).campaign(1, 1, -1), dues[i]);
    }
  }

  static void p16_theFirstFourOnly() {
    HayVotes v = rivalry(10, 0, 0, 0, 8, 8);
    due("the fourth", v.campaign(1, 1, 3), 3);
    HayVotes w = rivalry(10, 0, 0, 0, 0, 8);
    due("the fifth", w.campaign(1, 1, -1), -2);
  }

  static void p16_standingOnesOnly() {
    HayVotes v = with("ev(1=1);g99(w=1)");
    v.stack(0, 9, 0, 100, 10, 0);
    v.stack(0, 0, 1, 100, 8, 1);
    for (int i = 1; i < 5; i++) {
      v.stack(i, 0, 1, 100, i == 4 ? 8 : 0, 0);
    }
    v.cow(5, 5, false, 1);
    due("the burning one is the first", v.campaign(1, 1, 0), 3);
    v.days(6);
    due("then the fifth is the fourth", v.campaign(1, 1, 3), 3);
    due("the first", v.campaign(1, 1, 0), 0);
  }

  static void p16_99AtMost() {
    due("98 against 98", rivalry(98, 98).campaign(1, 1, -1), 1);
    due("99 against 98", rivalry(98, 99).campaign(1, 1, -1), 0);
    due("98 against 99", rivalry(99, 98).campaign(1, 1, -1), -2);
    due("99 against 99", rivalry(99, 99).campaign(1, 1, -1), -2);
    HayVotes v = with("ev(k=0);e97(v>98)");
    v.stack(0, 9, 0, 100, 96, 0);
    v.stack(0, 0, 1, 100, 96, 0);
    v.cow(5, 5, false, 1);
    due("three, spread", v.campaign(1, 1, 4), 3);
    due("CLOVER", v.stackIs(1, 3), 99);
  }

  static void p16_aTieDoesNotWin() {
    HayVotes v = with("ev(k=u)");
    v.stack(0, 0, 1, 100, 50, 0);
    v.stack(1, 0, 2, 100, 50, 0);
    v.cow(0, 0, false, 1);
    v.cow(0, 0, false, 2);
    due("for 1", v.campaign(1, 6, -1), -2);
    v.cow(0, 0, false, 1);
    due("with one more", v.campaign(1, 6, -1), 0);
    due("for 2", v.campaign(2, 6, -1), -2);
  }

  static void p16_theVotesOfTheseDaysOnly() {
    HayVotes v = rivalry(10, 9);
    v.days(20);
    due("for 1, though 0 has 20", v.campaign(1, 1, -1), 2);
  }

  static void p16_leastPenceThenLeastRow() {
    HayVotes v = rivalry(10, 9, 9, 9, 9);
    int[] row = {0, 0, 0, 2};
    for (int i = 0; i < 4; i++) {
      due("like ones, " + i, v.campaign(1, 1, i), row[i]);
    }
    HayVotes w = rivalry(10, 10, 9, 9, 9);
    due("the first is cheaper", w.campaign(1, 1, 0), 1);
    due("pence", w.campaign(1, 1, -1), 1);
  }

  static void p16_spreadByWhat4Only() {
    HayVotes v = rivalry(10, 9, 9);
    for (int what = -1; what < 2; what++) {
      v.campaign(1, 1, what);
      due("CLOVER", v.stackIs(1, 3) + 100 * v.stackIs(2, 3), 909);
    }
    due("what 4", v.campaign(1, 1, 4), 2);
    due("CLOVER", v.stackIs(1, 3) + 100 * v.stackIs(2, 3), 1109);
    due("THE DAY", v.count(0), 0);
    due("once more", v.campaign(1, 1, 4), 0);
    due("CLOVER", v.stackIs(1, 3) + 100 * v.stackIs(2, 3), 1109);
  }

  static void p16_stack0IsTheFirst() {
    HayVotes v = with("ev(1=1)");
    v.stack(0, 0, 2, 100, 8, 0);
    v.stack(1, 0, 1, 100, 9, 0);
    v.cow(0, 0, false, 1);
    due("pence", v.campaign(2, 1, 4), 1);
    due("CLOVER", v.stackIs(0, 3), 9);
  }

  static void p16_byTheLawAsItIsNow() {
    HayVotes v = rivalry(10, 9);
    due("pence", v.campaign(1, 1, -1), 2);
    law(v, "e90-v(1=1)");
    due("by another law", v.campaign(1, 1, -1), 0);
    due("for the other", v.campaign(0, 1, -1), -2);
    v.taste(0, 1, 2);
    law(v, "ev+t(1=1)");
    due("with a TASTE", v.campaign(1, 1, -1), 0);
    v.taste(0, 1, -1);
    due("with another", v.campaign(1, 1, -1), 3);
  }

  static void p16_nothingIsSpreadIfNoneWins() {
    HayVotes v = rivalry(50, 9, 9);
    due("what 4", v.campaign(1, 1, 4), -2);
    due("CLOVER", v.stackIs(1, 3) + 100 * v.stackIs(2, 3), 909);
  }

  static void p16_threeOnEachOfFour() {
    // a cow for each stack, which eats there only from CLOVER 3 on; against three for the rival
    HayVotes v = with("e9(k=1&v=3&u=h);e5(k=0&u=9)");
    v.stack(9, 9, 0, 100, 0, 0);
    for (int i = 0; i < 4; i++) {
      v.stack(i, 0, 1, i + 1, 0, 0);
      v.cow(0, 0, false, i + 1);
    }
    for (int i = 0; i < 3; i++) {
      v.cow(0, 0, false, 9);
    }
    due("pence", v.campaign(1, 1, -1), 12);
    v.cow(0, 0, false, 9);
    due("a tie", v.campaign(1, 1, -1), -2);
  }

  // ---- promises 17 and 18

  private static HayVotes herd(int bulls, int cows) {
    HayVotes v = new HayVotes();
    for (int c = 0; c < bulls + cows; c++) {
      v.cow(0, 0, c < bulls, 1);
    }
    return v;
  }

  static void p17_cowThereIs() {
    due("no cow at all", new HayVotes().power(0), -1);
    for (int cows : new int[] {1, 15, 16}) {
      HayVotes v = herd(0, cows);
      range("power, COW of " + cows, 0, cows - 1, -1, n -> v.power(n));
    }
  }

  static void p17_halfIsNotMoreThanHalf() {
    due("one", herd(0, 1).power(0), 1);
    due("two", herd(0, 2).power(0), 1);
    due("three", herd(0, 3).power(0), 2);
    due("four", herd(0, 4).power(0), 3);
  }

  static void p17_aBullWithEightNineTenCows() {
    due("eight", herd(1, 8).power(0), 256);
    due("a cow of eight", herd(1, 8).power(1), 0);
    due("nine", herd(1, 9).power(0), 511);
    due("a cow of nine", herd(1, 9).power(1), 1);
    due("ten", herd(1, 10).power(0), 1022);
    // with the bull and no other one of nine, or with all nine and no bull
    due("a cow of ten", herd(1, 10).power(1), 2);
  }

  static void p17_sixteen() {
    due("cows", herd(0, 16).power(15), 6435);
    due("bulls", herd(16, 0).power(15), 6435);
    due("a bull with 15 cows", herd(1, 15).power(0), 32768 - 2 * (1 + 15 + 105) - 455);
    // 136 votes: 14 other bulls, and the cow: 69 are needed, 68 is no multiple of 9
    due("a cow with 15 bulls", herd(15, 1).power(15), 0);
    due("a bull with 14 others and a cow", herd(15, 1).power(0), 2 * 3432);
  }

  static void p18_cowThereIs() {
    due("no cow at all", new HayVotes().share(0, 0), -1);
    for (int cows : new int[] {1, 15, 16}) {
      HayVotes v = herd(0, cows);
      range("share, COW of " + cows, 0, cows - 1, -1, n -> v.share(n, 0));
      range("share below, COW of " + cows, 0, cows - 1, -1, n -> v.share(n, 1));
    }
  }

  static void p18_what0And1() {
    HayVotes v = herd(0, 3);
    range("share, what", 0, 1, -1, n -> v.share(0, n));
  }

  private static void share(String who, HayVotes v, int cow, long above, long below) {
    due(who + ", above", v.share(cow, 0), above);
    due(who + ", below", v.share(cow, 1), below);
  }

  static void p18_noneAndAll() {
    share("one cow", herd(0, 1), 0, 1, 1);
    share("a bull with eight", herd(1, 8), 0, 1, 1);
    share("a cow with seven and a bull", herd(1, 8), 1, 0, 1);
  }

  static void p18_halfIsNotMoreThanHalf() {
    share("two", herd(0, 2), 0, 1, 2);
    share("a bull with nine", herd(1, 9), 0, 9, 10);
    share("one of the nine", herd(1, 9), 1, 1, 90);
    share("a bull with ten", herd(1, 10), 0, 9, 11);
    share("one of the ten", herd(1, 10), 1, 1, 55);
  }

  static void p18_sixteen() {
    share("cows", herd(0, 16), 15, 1, 16);
    share("bulls", herd(16, 0), 0, 1, 16);
    share("a bull with 15 cows", herd(1, 15), 0, 9, 16);
    share("a cow with 15 bulls", herd(15, 1), 15, 0, 1);
    share("a bull with a cow", herd(15, 1), 14, 1, 15);
  }

  // ---- promises 19 and 20

  /** Cows that vote for the COLOUR told, on the squares told: x, y, COLOUR, and 1 for a bull. */
  private static HayVotes voters(int[]... cows) {
    HayVotes v = with("e10+t(1=1)", 5, 0);
    for (int c = 0; c < cows.length; c++) {
      v.cow(cows[c][0], cows[c][1], cows[c][3] == 1, 1);
      v.taste(c, cows[c][2], 9);
    }
    v.days(1);
    return v;
  }

  static void p19_district0To3() {
    HayVotes v = voters(new int[] {0, 0, 1, 0});
    range("seat", 0, 3, -1, n -> v.seat(n));
    range("seat without cows", 0, 3, -1, n -> new HayVotes().seat(n));
  }

  static void p19_below5OrNot() {
    int[][] squares = {{4, 4}, {5, 4}, {4, 5}, {5, 5}, {0, 0}, {9, 0}, {0, 9}, {9, 9}};
    for (int i = 0; i < squares.length; i++) {
      HayVotes v = voters(new int[] {squares[i][0], squares[i][1], 3, 0});
      for (int district = 0; district < 4; district++) {
        due("seat(" + district + ") by a cow at " + squares[i][0] + " " + squares[i][1], v.seat(district), district == i % 4 ? 3 : -2);
      }
    }
  }

  static void p19_nobodysWithoutALastVote() {
    HayVotes v = new HayVotes();
    v.cow(0, 0, true, 1);
    for (int district = 0; district < 4; district++) {
      due("seat(" + district + ")", v.seat(district), -2);
    }
  }

  static void p19_ofLikeOnesTheLowest() {
    due("4 and 0", voters(new int[] {0, 0, 4, 0}, new int[] {0, 0, 0, 0}).seat(0), 0);
    due("3 and 2", voters(new int[] {0, 0, 2, 0}, new int[] {4, 4, 3, 0}).seat(0), 2);
    due("4 twice", voters(new int[] {0, 0, 0, 0}, new int[] {4, 4, 4, 0}, new int[] {4, 4, 4, 0}).seat(0), 4);
  }

  static void p19_aBullAgainstEightNineTen() {
    for (int cows = 8; cows <= 10; cows++) {
      int[][] all = new int[cows + 1][];
      for (int c = 0; c < cows; c++) {
        all[c] = new int[] {9, 9, 1, 0};
      }
      all[cows] = new int[] {9, 9, 0, 1};
      due("against " + cows, voters(all).seat(3), cows == 10 ? 1 : 0);
      all[cows] = new int[] {9, 9, 2, 1};
      due("the bull for 2 against " + cows, voters(all).seat(3), cows >= 9 ? 1 : 2);
    }
  }

  static void p19_askedAgainAndAgain() {
    HayVotes v = voters(new int[] {0, 0, 0, 0}, new int[] {0, 0, 1, 1});
    for (int i = 0; i < 20; i++) {
      due("seat(0)", v.seat(0), 1);
      due("SEATS of 0", v.cut(0, 0), 0);
    }
  }

  static void p20_colour0To4() {
    HayVotes v = voters(new int[] {0, 0, 1, 0});
    range("cut, COLOUR", 0, 4, -1, n -> v.cut(n, 0));
  }

  static void p20_what0To2() {
    HayVotes v = voters(new int[] {0, 0, 1, 0});
    range("cut, what", 0, 2, -1, n -> v.cut(1, n));
  }

  private static void cut(String what, HayVotes v, int colour, int seats, int x, int y) {
    due(what + ", SEATS", v.cut(colour, 0), seats);
    due(what + ", x", v.cut(colour, 1), x);
    due(what + ", y", v.cut(colour, 2), y);
  }

  static void p20_noSeats() {
    cut("no cows", new HayVotes(), 0, 0, 1, 1);
    cut("another COLOUR", voters(new int[] {5, 5, 1, 0}), 0, 0, 1, 1);
  }

  static void p20_at1AndAt9() {
    cut("0 and 1", voters(new int[] {0, 0, 1, 0}, new int[] {1, 1, 1, 0}), 1, 2, 1, 1);
    cut("x 8 and 9", voters(new int[] {8, 0, 1, 0}, new int[] {9, 0, 1, 0}), 1, 2, 9, 1);
    cut("y 8 and 9", voters(new int[] {0, 8, 1, 0}, new int[] {0, 9, 1, 0}), 1, 2, 1, 9);
    cut("the four at 8 and 9", voters(new int[] {8, 8, 1, 0}, new int[] {9, 8, 1, 0}, new int[] {8, 9, 1, 0}, new int[] {9, 9, 1, 0}), 1, 4, 9, 9);
    cut("the four at 0 and 1", voters(new int[] {0, 0, 1, 0}, new int[] {1, 0, 1, 0}, new int[] {0, 1, 1, 0}, new int[] {1, 1, 1, 0}), 1, 4, 1, 1);
  }

  static void p20_noCutAt0OrAt10() {
    // undivided 4 has most votes, but neither edge alone is its own
    int[][] twoEdges = {{0, 0, 0, 0}, {0, 0, 0, 0}, {0, 0, 4, 0}, {9, 0, 4, 0}, {9, 0, 4, 0}, {9, 0, 1, 0}, {9, 0, 1, 0}};
    due("x", voters(twoEdges).cut(4, 0), 0);
    for (int[] cow : twoEdges) {
      cow[1] = cow[0];
      cow[0] = 0;
    }
    due("y", voters(twoEdges).cut(4, 0), 0);
  }

  static void p20_ofLikeOnesTheLeastXThenY() {
    cut("x 3 to 6 and y 2 to 7", voters(new int[] {2, 1, 1, 0}, new int[] {6, 1, 1, 0}, new int[] {2, 7, 1, 0}, new int[] {6, 7, 1, 0}), 1, 4, 3, 2);
    cut("by x or by y", voters(new int[] {4, 4, 1, 0}, new int[] {8, 8, 1, 0}), 1, 2, 1, 5);
  }

  // ---- promise 21

  static void p21_cowThereIs() {
    due("no cow at all", new HayVotes().foreseen(0), -1);
    for (int cows : new int[] {2, 15, 16}) {
      HayVotes v = with("e9(1=1)", 1, cows);
      v.days(1);
      range("foreseen, COW of " + cows, 0, cows - 1, -1, n -> v.foreseen(n));
    }
  }

  static void p21_noOtherOneHasALastVote() {
    HayVotes v = with("e9(u=1)", 1, 1);
    due("one cow", v.foreseen(0), -2);
    v.days(1);
    due("it has one, no other", v.foreseen(0), -2);
    v.cow(0, 0, false, 2);
    due("the other has none", v.foreseen(0), -2);
    due("of the other", v.foreseen(1), 0);
  }

  static void p21_ofLikeOnesTheLowest() {
    HayVotes v = voters(new int[] {0, 0, 3, 0}, new int[] {0, 0, 1, 0}, new int[] {0, 0, 0, 0});
    v.cow(0, 0, false, 1);
    due("all 9 away", v.foreseen(3), 3);
    v.taste(3, 0, 1);
    due("the last is 1 nearer", v.foreseen(3), 0);
    v.taste(3, 3, 1);
    due("like ones again", v.foreseen(3), 3);
  }

  static void p21_differencesWithoutSignTogether() {
    HayVotes v = voters(new int[] {0, 0, 3, 0}, new int[] {0, 0, 1, 0});
    v.cow(0, 0, false, 1);
    v.taste(2, 3, -9);
    due("18 against 18", v.foreseen(2), 3);
    v.taste(0, 0, 1);
    due("19 against 18", v.foreseen(2), 1);
    v.taste(1, 0, -1);
    due("19 against 19", v.foreseen(2), 3);
    for (int k = 0; k < 5; k++) {
      v.taste(0, k, 9);
      v.taste(1, k, -9);
      v.taste(2, k, 9);
    }
    due("0 against 90", v.foreseen(2), 3);
    due("only one other has voted, 90 away", v.foreseen(0), 1);
  }

  // ---- promise 22

  static void p22_stackThereIs() {
    due("no stack at all", new HayVotes().burns(0, 1, 1, 0), -1);
    for (int stacks : new int[] {1, 11, 12}) {
      HayVotes v = with("e9(1=1)", stacks, 0);
      range("burns, STACK of " + stacks, 0, stacks - 1, -1, n -> v.burns(n, 1, 1, 0));
    }
  }

  static void p22_goneOnes() {
    HayVotes v = withGoneOnes();
    long[] dues = {-1, 0, -1, 0};
    for (int s = 0; s < 4; s++) {
      due("burns of " + s, v.burns(s, 1, 1, 0), dues[s]);
    }
  }

  static void p22_days1To12() {
    HayVotes v = heated(499);
    range("burns, n", 1, 12, -1, n -> v.burns(0, n, 1, 0));
  }

  static void p22_k1To30() {
    HayVotes v = heated(499);
    range("burns, k", 1, 30, -1, n -> v.burns(0, 1, n, 0));
  }

  static void p22_what0And1() {
    HayVotes v = heated(499);
    range("burns, what", 0, 1, -1, n -> v.burns(0, 1, 1, n));
  }

  private static void odds(int heat, int n, int k, long above, long below) {
    HayVotes v = heated(heat);
    due("HEAT", v.stackIs(0, 5), heat);
    due("burns above, " + heat + " " + n + " " + k, v.burns(0, n, k, 0), above);
    due("burns below, " + heat + " " + n + " " + k, v.burns(0, n, k, 1), below);
  }

  static void p22_neverAndOneWayOnly() {
    long all = 1;
    for (int i = 0; i < 12; i++) {
      all *= 31;
    }
    odds(0, 12, 30, 0, 1);
    odds(139, 12, 30, 0, 1);
    odds(140, 12, 30, 1, all);
    odds(141, 12, 30, 13, all);
    odds(499, 12, 30, all - 1, all);
    odds(499, 1, 1, 1, 2);
    odds(498, 1, 1, 0, 1);
    odds(498, 2, 1, 1, 4);
    odds(499, 2, 1, 3, 4);
    odds(499, 12, 1, 4095, 4096);
    odds(488, 12, 1, 1, 4096);
    odds(487, 12, 1, 0, 1);
    odds(470, 1, 30, 1, 31);
    odds(469, 1, 30, 0, 1);
    odds(499, 1, 30, 30, 31);
  }

  static void p22_withoutACommonDivisor() {
    odds(495, 1, 9, 1, 2);
    odds(496, 1, 9, 3, 5);
    odds(495, 2, 9, 17, 20);
  }

  // ---- promise 23

  private static int salted(HayVotes v, int what, int... words) {
    feed(v, words);
    return v.salted(words.length / 3, what);
  }

  private static int[] words(int n, int cow, int stack, int day) {
    int[] words = new int[3 * n];
    for (int i = 0; i < n; i++) {
      words[3 * i] = cow;
      words[3 * i + 1] = stack;
      words[3 * i + 2] = day;
    }
    return words;
  }

  static void p23_n1To30() {
    range("salted, n", 1, 30, -3, n -> {
      HayVotes v = with("e9(1=1)", 1, 1);
      feed(v, new int[220]);
      return v.salted(n, 0);
    });
    due("30 words", salted(with("e9(1=1)", 1, 1), 0, words(30, 0, 0, 9)), 11);
  }

  static void p23_what0To2() {
    range("salted, what", 0, 2, -3, n -> {
      HayVotes v = with("e9(1=1)", 1, 1);
      feed(v, new int[20]);
      return v.salted(1, n);
    });
  }

  static void p23_notMoreThanTheTapeHas() {
    due("an empty tape", with("e9(1=1)", 1, 1).salted(1, 0), -3);
    int[] most = {6, 13, 20, 26};
    for (int meals = 1; meals <= 4; meals++) {
      HayVotes v = with("e9(1=1)", 1, 1);
      feed(v, new int[20 * meals]);
      due("one too many", v.salted(most[meals - 1] + 1, 0), -3);
      due("the tape stays", v.count(4), 20 * meals);
      due("as many as it has", v.salted(most[meals - 1], 0), 11);
      due("empty then", v.count(4), 0);
    }
  }

  static void p23_theTapeStaysIfThereIsNoSuchNOrWhat() {
    HayVotes v = with("e9(1=1)", 1, 1);
    feed(v, 0, 0, 9);
    for (int n : new int[] {MIN, -1, 0, 7, 30, 31, MAX}) {
      due("salted(" + n + ", 0)", v.salted(n, 0), -3);
      due("count(4)", v.count(4), 20);
    }
    for (int what : new int[] {MIN, -1, 3, MAX}) {
      due("salted(1, " + what + ")", v.salted(1, what), -3);
      due("count(4)", v.count(4), 20);
    }
    due("salted(1, 0)", v.salted(1, 0), 11);
  }

  static void p23_emptyAtNoSuchWords() {
    HayVotes v = with("e9(1=1)", 1, 1);
    due("DAY 10", salted(v, 0, 0, 0, 10), -2);
    due("count(4)", v.count(4), 0);
  }

  static void p23_cowsThereAre() {
    for (int cows : new int[] {0, 1, 15, 16}) {
      HayVotes v = with("e9(1=1)", 1, cows);
      due("the first", salted(v, 0, 0, 255, 0), cows == 0 ? -2 : 0);
      due("behind the last of " + cows, salted(v, 0, cows, 255, 0), -2);
      due("255", salted(v, 0, 255, 255, 0), -2);
      if (cows > 0) {
        due("the last of " + cows, salted(v, 0, cows - 1, 0, 0), 11);
      }
    }
  }

  static void p23_stacksThereAre() {
    for (int stacks : new int[] {0, 1, 11, 12}) {
      HayVotes v = with("e9(1=1)", stacks, 1);
      due("behind the last of " + stacks, salted(v, 0, 0, stacks, 0), -2);
      due("254", salted(v, 0, 0, 254, 0), -2);
      due("255", salted(v, 0, 0, 255, 0), stacks == 0 ? 1 : 0);
      if (stacks > 0) {
        due("the last of " + stacks, salted(v, 0, 0, stacks - 1, 0), stacks == 1 ? 11 : 0);
      }
    }
  }

  static void p23_goneStacksToo() {
    HayVotes v = withGoneOnes();
    due("a burnt one", salted(v, 0, 0, 0, 0), 0);
    due("a joined one", salted(v, 0, 0, 2, 0), 0);
    due("one that stands", salted(v, 0, 0, 1, 0), 21);
    due("behind the last", salted(v, 0, 0, 4, 0), -2);
  }

  static void p23_days0To9() {
    HayVotes v = with("e9(1=1)", 1, 1);
    due("0", salted(v, 0, 0, 0, 0), 11);
    due("9", salted(v, 0, 0, 0, 9), 11);
    due("10", salted(v, 0, 0, 0, 10), -2);
    due("255", salted(v, 0, 0, 0, 255), -2);
  }

  static void p23_theLastWordIsReadToo() {
    HayVotes v = with("e9(1=1)", 1, 1);
    for (int at : new int[] {0, 15, 29}) {
      int[] words = words(30, 0, 0, 3);
      words[3 * at + 2] = 10;
      due("a wrong one at " + at, salted(v, 0, words), -2);
      words[3 * at + 2] = 3;
      words[3 * at + 1] = 255;
      due("one that does not fit at " + at, salted(v, 0, words), 0);
    }
    int[] more = words(31, 0, 0, 3);
    more[90] = 99;
    feed(v, more);
    due("the 31st is not read", v.salted(30, 0), 11);
  }

  static void p23_saltFromDay0To9() {
    HayVotes v = with("n(s=1);e9-k(1=1)", 2, 1);
    for (int day = 0; day <= 9; day++) {
      int[] words = {0, 1, day, 0, day == 0 ? 1 : 0, Math.max(0, day - 1)};
      due("how many from DAY " + day, salted(v, 0, words), 1);
      due("the STACK", salted(v, 1, words), 0);
      due("the DAY", salted(v, 2, words), day);
    }
    // at 0 to the end: 0 is not SALTED, nor can it be from the tenth DAY on
    due("at 0 on DAY 9", salted(v, 0, 0, 0, 9), 11);
    due("the first", salted(v, 1, 0, 0, 9), 1);
  }

  static void p23_noneSaltedIs12BehindAll() {
    HayVotes v = with("n(s=1);e9-k(1=1)", 1, 1);
    due("how many", salted(v, 0, 0, 0, 9), 1);
    due("the STACK", salted(v, 1, 0, 0, 9), 12);
    due("the DAY", salted(v, 2, 0, 0, 9), 12);
    due("what is before it", salted(v, 1, 0, 0, 8), 0);
    due("from DAY 9", salted(v, 2, 0, 0, 8), 9);
    due("how many then", salted(v, 0, 0, 0, 8), 2);
  }

  static void p23_noneFitIs13() {
    HayVotes v = with("e9(1=1)", 1, 1);
    due("how many", salted(v, 0, 0, 255, 0), 0);
    due("the STACK", salted(v, 1, 0, 255, 0), 13);
    due("the DAY", salted(v, 2, 0, 255, 0), 13);
  }

  static void p23_all121() {
    HayVotes v = with("e9(1=1)", 12, 1);
    due("how many", salted(v, 0, 0, 0, 0), 121);
    due("the STACK", salted(v, 1, 0, 0, 0), 0);
    due("the DAY", salted(v, 2, 0, 0, 0), 0);
  }

  static void p23_standingOnesOnly() {
    HayVotes v = withGoneOnes();
    due("of four two stand", salted(v, 0, 0, 1, 0), 21);
    due("the first is 1", salted(v, 1, 0, 1, 0), 1);
  }

  static void p23_whatIsSaltedNowIsPutAside() {
    HayVotes v = with("n(s=1);e9-k(1=1)", 2, 1);
    v.salt(0, 0);
    due("at 0: not SALTED", salted(v, 0, 0, 0, 9), 11);
    due("count(7)", v.count(7), 0);
    due("count(8)", v.count(8), 0);
    due("chooses(0)", v.chooses(0), 1);
  }

  static void p23_daysFromNow() {
    HayVotes v = with("n(s=1);e9-k(1=1)", 2, 1);
    v.days(20);
    due("the DAY", salted(v, 2, 0, 0, 3, 0, 1, 4), 4);
  }

  // ---- promise 24

  private static HayVotes pair(int x, int y, int colour) {
    HayVotes v = new HayVotes();
    v.stack(4, 4, 2, 10, 1, 1);
    v.stack(x, y, colour, 20, 2, 2);
    return v;
  }

  static void p24_way1To9() {
    range("storm", 1, 9, -1, n -> pair(5, 4, 2).storm(n));
  }

  static void p24_notMoreThanTheWay() {
    int[][] squares = {{5, 4}, {4, 3}, {6, 4}, {5, 5}, {3, 5}, {0, 4}, {9, 8}, {0, 0}, {9, 9}};
    int[] ways = {1, 1, 2, 2, 2, 4, 9, 8, 10};
    for (int i = 0; i < squares.length; i++) {
      for (int way = 1; way <= 9; way++) {
        due("storm(" + way + ") over a WAY of " + ways[i], pair(squares[i][0], squares[i][1], 2).storm(way), way >= ways[i] ? 1 : 0);
      }
    }
  }

  static void p24_ofOneColour() {
    due("another COLOUR", pair(5, 4, 1).storm(9), 0);
    due("the same", pair(5, 4, 2).storm(9), 1);
  }

  static void p24_noStacksOrOne() {
    due("none", new HayVotes().storm(9), 0);
    due("one", with("e9(1=1)", 1, 0).storm(9), 0);
  }

  static void p24_clover99AtMost() {
    int[] more = {0, 48, 49, 50, 99};
    int[] dues = {50, 98, 99, 99, 99};
    for (int i = 0; i < more.length; i++) {
      HayVotes v = new HayVotes();
      v.stack(0, 0, 0, 1, 50, 0);
      v.stack(1, 0, 0, 1, more[i], 0);
      v.storm(1);
      due("CLOVER 50 and " + more[i], v.stackIs(0, 3), dues[i]);
    }
  }

  static void p24_hayTogether() {
    HayVotes v = new HayVotes();
    for (int s = 0; s < 12; s++) {
      v.stack(s % 4, s / 4, 0, 999, 0, 0);
    }
    due("storm(9)", v.storm(9), 11);
    due("HAY", v.stackIs(0, 2), 12 * 999);
    due("HAY of the last", v.stackIs(11, 2), 0);
  }

  static void p24_dampAndHeatTheGreater() {
    for (int lower = 0; lower < 2; lower++) {
      HayVotes v = with("gw(1=1)");
      v.stack(0, 0, 0, 1, 0, lower == 0 ? 30 : 70);
      v.stack(1, 0, 0, 1, 0, lower == 0 ? 70 : 30);
      v.days(2);
      v.storm(1);
      due("DAMP", v.stackIs(0, 4), 70);
      due("HEAT", v.stackIs(0, 5), 140);
    }
  }

  static void p24_goneOnesDontJoin() {
    HayVotes v = withGoneOnes();
    due("once more", v.storm(9), 0);
    v.stack(0, 1, 0, 3, 0, 0);
    due("beside a burnt one", v.storm(9), 0);
    v.stack(6, 4, 1, 3, 0, 0);
    due("one from the place of a joined one, two from the lower", v.storm(1), 0);
    due("two", v.storm(2), 1);
    due("HAY of 1", v.stackIs(1, 2), 16);
  }

  static void p24_theLowestWithTheLowest() {
    HayVotes v = new HayVotes();
    int[] xs = {4, 6, 2, 8, 0};
    for (int s = 0; s < xs.length; s++) {
      v.stack(xs[s], 0, 0, 1 << s, 0, 0);
    }
    // 0 with 1 and 2; 3 is two from 1's place, but four from 0
    due("storm(2)", v.storm(2), 2);
    int[] dues = {7, 0, 0, 8, 16};
    for (int s = 0; s < xs.length; s++) {
      due("HAY of " + s, v.stackIs(s, 2), dues[s]);
    }
    due("storm(4)", v.storm(4), 2);
    due("HAY of 0", v.stackIs(0, 2), 31);
  }

  static void p24_eatenStaysItsOwn() {
    HayVotes v = with("e9+v(1=1)");
    v.stack(0, 0, 0, 50, 0, 0);
    v.stack(1, 0, 0, 50, 5, 0);
    v.cow(0, 0, false, 4);
    v.days(2);
    v.storm(1);
    due("of the gone one", v.eaten(1, 0), 8);
    due("of the lower", v.eaten(0, 0), 0);
    v.days(1);
    due("of the lower then", v.eaten(0, 0), 4);
    due("of both", v.eaten(-1, 0), 12);
  }

  static void p24_theSquareOfTheLowerStays() {
    HayVotes v = pair(5, 4, 2);
    v.storm(1);
    due("SQUARE", v.stackIs(0, 0), 44);
    due("stands", v.stackIs(1, 6), 0);
    due("count(1)", v.count(1), 2);
    due("count(6)", v.count(6), 1);
  }

  // ---- promise 25

  static void p25_seed0To65535() {
    range("seed", 0, 65535, 0, n -> new HayVotes().seed(n) ? 1 : 0);
    for (int x : new int[] {0, 1, 65534, 65535}) {
      HayVotes v = new HayVotes();
      v.seed(x);
      due("X", v.count(5), x);
      v.draw(1);
      due("X then", v.count(5), (25173L * x + 13849) % 65536);
    }
  }

  // ---- promise 26

  static void p26_days1To20() {
    range("draw", 1, 20, -1, n -> with("e9(1=1)", 1, 1).draw(n));
    HayVotes v = with("e9(1=1)", 1, 1);
    due("draw(1)", v.draw(1), 1);
    due("THE DAY", v.count(0), 1);
    due("draw(20)", v.draw(20), 20);
    due("THE DAY", v.count(0), 21);
  }

  /** A seed by which the next X is of this cow and direction. */
  private static int seedFor(int cow, int direction) {
    int x = 0;
    while (true) {
      int next = (25173 * x + 13849) % 65536;
      if (next % 16 == cow && next / 16 % 4 == direction) {
        return x;
      }
      x++;
    }
  }

  static void p26_atTheEdgeItStays() {
    int[][] at = {{5, 9}, {9, 5}, {5, 0}, {0, 5}};
    int[][] beside = {{5, 8}, {8, 5}, {5, 1}, {1, 5}};
    for (int direction = 0; direction < 4; direction++) {
      for (int[] from : new int[][] {at[direction], beside[direction]}) {
        HayVotes v = new HayVotes();
        v.cow(from[0], from[1], false, 1);
        v.seed(seedFor(0, direction));
        v.draw(1);
        due("direction " + direction + " from " + from[0] + " " + from[1], v.cowIs(0, 0), 10 * at[direction][1] + at[direction][0]);
      }
    }
  }

  static void p26_oneSquareInEachDirection() {
    int[] dues = {65, 56, 45, 54};
    for (int direction = 0; direction < 4; direction++) {
      HayVotes v = new HayVotes();
      v.cow(5, 5, false, 1);
      v.seed(seedFor(0, direction));
      v.draw(1);
      due("direction " + direction, v.cowIs(0, 0), dues[direction]);
    }
  }

  static void p26_theCowIfThereIsOne() {
    for (int cow : new int[] {0, 1, 14, 15}) {
      for (int cows = cow; cows <= cow + 1; cows++) {
        HayVotes v = new HayVotes();
        for (int c = 0; c < cows; c++) {
          v.cow(5, 5, false, 1);
        }
        v.seed(seedFor(cow, 0));
        v.draw(1);
        for (int c = 0; c < cows; c++) {
          due("cow " + c + " of " + cows, v.cowIs(c, 0), c == cow ? 65 : 55);
        }
        due("THE DAY", v.count(0), 1);
      }
    }
  }

  static void p26_itGoesAheadOfTheDay() {
    HayVotes v = with("e9-d*9(1=1)");
    v.stack(5, 6, 3, 9, 0, 0);
    v.cow(5, 5, false, 1);
    due("one away it would not", v.would(0, 0), 0);
    v.seed(seedFor(0, 0));
    due("draw(1)", v.draw(1), 1);
  }

  static void p26_xModulo65536() {
    HayVotes v = new HayVotes();
    v.seed(65535);
    long x = 65535;
    for (int i = 0; i < 20; i++) {
      x = (25173 * x + 13849) % 65536;
      v.draw(1);
      due("X", v.count(5), x);
    }
    HayVotes w = new HayVotes();
    w.seed(65535);
    w.draw(20);
    due("X after draw(20)", w.count(5), x);
  }

  static void p26_daysAndRunDontDraw() {
    HayVotes v = with("e9(1=1)", 1, 1);
    v.days(20);
    v.run(20, 0);
    due("X", v.count(5), 1);
  }

  // ---- promises 27 and 28

  static void p27_howManyStand() {
    due("none", new HayVotes().keep(), 0);
    due("one", with("e9(1=1)", 1, 0).keep(), 1);
    due("12", with("e9(1=1)", 12, 0).keep(), 12);
    due("gone ones don't", withGoneOnes().keep(), 2);
  }

  static void p27_theLastOneKept() {
    HayVotes v = with("e9(1=1)", 1, 1);
    v.days(1);
    v.keep();
    v.days(1);
    v.keep();
    v.days(1);
    v.undo();
    due("THE DAY", v.count(0), 2);
  }

  static void p27_keepChangesNothing() {
    HayVotes v = with("e9(1=1)", 2, 2);
    v.days(3);
    v.keep();
    due("THE DAY", v.count(0), 3);
    due("HAY", v.stackIs(0, 2), 94);
    due("CLAUSES", v.count(3), 1);
  }

  static void p28_noneWasKept() {
    HayVotes v = with("e9(1=1)", 2, 2);
    v.days(3);
    due("undo()", v.undo(), false);
    due("THE DAY", v.count(0), 3);
    due("STACKS", v.count(1), 2);
  }

  static void p28_anEmptyMeadowKept() {
    HayVotes v = with("e9(1=1);g50(1=1)");
    v.keep();
    v.stack(0, 0, 0, 9, 9, 9);
    v.cow(0, 0, true, 9);
    v.taste(0, 0, 9);
    v.seed(77);
    v.salt(0, 7);
    v.days(2);
    due("undo()", v.undo(), true);
    int[] dues = {0, 0, 0, 2, 0, 1, 0, -1, -1};
    for (int what = 0; what < dues.length; what++) {
      due("count(" + what + ")", v.count(what), dues[what]);
    }
    due("COUNT", v.votes(0), 0);
    due("a stack on that square", v.stack(0, 0, 1, 8, 8, 8), 0);
    due("a cow", v.cow(1, 1, false, 1), 0);
    due("TASTE", v.cowIs(0, 10), 0);
    due("VOTES", v.cowIs(0, 1), 1);
    due("LAST VOTE", v.cowIs(0, 3), -2);
    due("HEAT", v.stackIs(0, 5), 0);
    due("EATEN", v.eaten(0, 0), 0);
  }

  static void p28_twiceIsAsOnce() {
    HayVotes v = with("e9(1=1)", 1, 1);
    v.days(4);
    v.keep();
    for (int i = 0; i < 3; i++) {
      v.days(7);
      due("undo()", v.undo(), true);
      due("undo() at once again", v.undo(), true);
      due("THE DAY", v.count(0), 4);
      due("HAY", v.stackIs(0, 2), 96);
    }
  }

  static void p28_aFullMeadow() {
    HayVotes v = with("e10+t(1=1);gk*20(1=1)", 12, 16);
    for (int c = 0; c < 16; c++) {
      v.taste(c, c % 5, 9);
    }
    v.salt(11, 3);
    v.days(2);
    v.keep();
    v.draw(20);
    v.storm(9);
    v.salt(-1, 0);
    v.undo();
    due("STACKS", v.count(1), 12);
    due("standing", v.count(6), 12);
    due("COWS", v.count(2), 16);
    due("THE DAY", v.count(0), 2);
    due("X", v.count(5), 1);
    due("SALT", v.count(7), 11);
    due("its DAY", v.count(8), 3);
    due("HAY of 4", v.stackIs(4, 2), 94);
    due("HEAT of 9", v.stackIs(9, 5), 160);
    for (int c = 0; c < 16; c++) {
      due("SQUARE of " + c, v.cowIs(c, 0), 0);
      due("EATEN by " + c, v.eaten(c % 5, c), 2);
    }
    due("COUNT", v.votes(0), 8);
    due("COUNT", v.votes(4), 6);
  }

  static void p28_eachOfACowAndAStack() {
    HayVotes v = with("e10+t(1=1);g50(1=1)", 3, 1);
    v.taste(0, 1, 5);
    v.days(2);
    v.keep();
    v.taste(0, 0, 9);
    v.taste(0, 1, -9);
    v.seed(seedFor(0, 1));
    v.draw(1);
    due("SQUARE", v.cowIs(0, 0), 1);
    due("LAST VOTE", v.cowIs(0, 3), 0);
    v.storm(9);
    v.campaign(0, 1, 4);
    v.undo();
    int[] cow = {0, 1, 1, 1};
    for (int what = 0; what < 4; what++) {
      due("cowIs(0, " + what + ")", v.cowIs(0, what), cow[what]);
    }
    due("TASTE for 0", v.cowIs(0, 10), 0);
    due("TASTE for 1", v.cowIs(0, 11), 5);
    int[] stack = {2, 1, 98, 0, 0, 100, 1};
    for (int what = 0; what < 7; what++) {
      due("stackIs(1, " + what + ")", v.stackIs(1, what), stack[what]);
    }
    due("EATEN", v.eaten(0, 0), 0);
    due("EATEN", v.eaten(1, 0), 2);
    due("COUNT", v.votes(0), 0);
    due("COUNT", v.votes(1), 2);
  }

  static void p28_cloverDampAndGoneOnes() {
    HayVotes v = with("ev(1=1);g99(w=1)");
    v.stack(0, 0, 0, 5, 8, 3);
    v.stack(1, 0, 0, 6, 1, 9);
    v.stack(5, 5, 1, 7, 9, 1);
    v.cow(0, 0, false, 1);
    v.days(5);
    v.keep();
    v.campaign(0, 1, 4);
    v.storm(1);
    v.days(1);
    due("one stands", v.count(6), 1);
    v.undo();
    due("all stand", v.count(6), 3);
    int[][] dues = {{0, 0, 5, 8, 3, 0, 1}, {1, 0, 6, 1, 9, 0, 1}, {55, 1, 2, 9, 1, 495, 1}};
    for (int s = 0; s < 3; s++) {
      for (int what = 0; what < 7; what++) {
        due("stackIs(" + s + ", " + what + ")", v.stackIs(s, what), dues[s][what]);
      }
    }
  }

  static void p28_theLawAndTheTapeAreNotUndone() {
    HayVotes v = with("e9(1=1)", 1, 1);
    v.keep();
    law(v, "e5(1=1);n(1=2)");
    v.feed(0, 0, 0, 0, 0);
    v.undo();
    due("CLAUSES", v.count(3), 2);
    due("would(0, 0)", v.would(0, 0), 5);
    due("the tape", v.count(4), 20);
  }

  // ---- promise 29

  /** Three cows that have eaten 1, 2 and 3 of stack 1. */
  private static HayVotes fed() {
    HayVotes v = with("e9(k=1)", 2, 0);
    for (int c = 0; c < 3; c++) {
      v.cow(0, 0, false, c + 1);
    }
    v.days(1);
    return v;
  }

  private static int check(HayVotes v, int stack, int n, int... numbers) {
    for (int at = 0; at < numbers.length; at += 5) {
      int[] m = Arrays.copyOf(Arrays.copyOfRange(numbers, at, Math.min(at + 5, numbers.length)), 5);
      v.feed(m[0], m[1], m[2], m[3], m[4]);
    }
    return v.check(stack, n);
  }

  static void p29_n0To16() {
    range("check, n", 0, 16, -2, n -> {
      HayVotes v = with("e9(1=1)", 1, 16);
      return check(v, 0, n, new int[20]);
    });
    due("16 right ones", check(with("e9(1=1)", 1, 16), 0, 16, new int[20]), -1);
    due("no numbers", check(fed(), 1, 0, 9, 9, 9), -1);
  }

  static void p29_stackThereIs() {
    due("no stack at all", new HayVotes().check(0, 0), -2);
    for (int stacks : new int[] {1, 11, 12}) {
      HayVotes v = with("e9(1=1)", stacks, 0);
      range("check, STACK of " + stacks, 0, stacks - 1, -2, n -> v.check(n, 0));
    }
  }

  static void p29_notMoreThanTheTapeHas() {
    HayVotes v = with("e9(1=1)", 1, 16);
    due("of an empty tape", v.check(0, 1), -2);
    due("none of an empty tape", v.check(0, 0), -1);
    for (int meals = 1; meals <= 3; meals++) {
      due("one too many", check(v, 0, 5 * meals + 1, new int[5 * meals]), -2);
      due("the tape stays", v.count(4), 20 * meals);
      due("as many as it has", v.check(0, 5 * meals), -1);
      due("empty then", v.count(4), 0);
    }
  }

  static void p29_theTapeStaysIfThereIsNoSuch() {
    HayVotes v = fed();
    v.feed(1, 2, 3, 0, 0);
    for (int n : new int[] {MIN, -1, 6, 16, 17, MAX}) {
      due("check(1, " + n + ")", v.check(1, n), -2);
    }
    for (int s : new int[] {MIN, -1, 2, 12, MAX}) {
      due("check(" + s + ", 3)", v.check(s, 3), -2);
    }
    due("count(4)", v.count(4), 20);
    due("check(1, 3)", v.check(1, 3), -1);
  }

  static void p29_emptyThen() {
    HayVotes v = fed();
    int[][] rows = {{1, 2, 3, 0, 0}, {9, 2, 3, 0, 0}};
    for (int[] row : rows) {
      for (int n = 0; n <= 5; n++) {
        check(v, 1, n, row);
        due("count(4) after check(1, " + n + ")", v.count(4), 0);
      }
    }
  }

  static void p29_theFirstThatIsNotSo() {
    HayVotes v = fed();
    for (int at = 0; at < 3; at++) {
      for (int off : new int[] {-1, 1, 256, 1 << 16, 1 << 24, MIN}) {
        int[] row = {1, 2, 3};
        row[at] += off;
        due("number " + at + " off by " + off, check(v, 1, 3, row), at);
        due("not asked for", check(v, 1, at, row), -1);
        row[2] = 77;
        due("and the last", check(v, 1, 3, row), at);
      }
    }
  }

  static void p29_nAboveTheCows() {
    HayVotes v = fed();
    due("as many", check(v, 1, 3, 1, 2, 3, 0, 0), -1);
    due("one more", check(v, 1, 4, 1, 2, 3, 0, 0), 3);
    due("many more", check(v, 1, 16, 1, 2, 3, 0, 0, 0, 0, 0, 0, 0, 0, 0, 0, 0, 0, 0), 3);
    due("one more, but one before is not so", check(v, 1, 4, 1, 2, 4, 0, 0), 2);
    due("no cows", check(with("e9(1=1)", 1, 0), 0, 1, 0), 0);
    due("no cows, no numbers", check(with("e9(1=1)", 1, 0), 0, 0, 0), -1);
  }

  static void p29_goneOnes() {
    HayVotes v = withGoneOnes();
    due("a burnt one", check(v, 0, 1, 0), -1);
    due("a joined one", check(v, 2, 1, 0), -1);
    due("not so", check(v, 2, 1, 1), 0);
  }

  // ---- promise 30

  static void p30_what0To8() {
    HayVotes v = with("e9(1=1)", 1, 1);
    v.salt(0, 5);
    range("count", 0, 8, -1, n -> v.count(n));
  }

  static void p30_noSalt() {
    HayVotes v = with("e9(1=1)", 1, 1);
    due("count(7)", v.count(7), -1);
    due("count(8)", v.count(8), -1);
    v.salt(0, 0);
    due("count(7)", v.count(7), 0);
    due("count(8)", v.count(8), 0);
  }

  static void p30_theMost() {
    HayVotes v = with("n(1=2);".repeat(13) + "e9(1=1)", 12, 16);
    for (int i = 0; i < 11; i++) {
      v.feed(0, 0, 0, 0, 0);
    }
    v.seed(65535);
    v.salt(11, 999);
    int[] dues = {0, 12, 16, 14, 220, 65535, 12, 11, 999};
    for (int what = 0; what < dues.length; what++) {
      due("count(" + what + ")", v.count(what), dues[what]);
    }
  }

  static void p30_standingOnes() {
    HayVotes v = withGoneOnes();
    due("STACKS", v.count(1), 4);
    due("that stand", v.count(6), 2);
  }

  static void p30_512Calls() {
    HayVotes v = new HayVotes();
    for (int i = 1; i < 512; i++) {
      v.days(20);
    }
    due("THE DAY by the 512th call", v.count(0), 20 * 511);
  }
}
