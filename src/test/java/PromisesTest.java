/** For each promise of the document ordinary inputs, the edges it names, and wrong inputs. */
public final class PromisesTest {
  private static int wrong = 0;
  private static int calls = 0;
  private static int promise = 0;

  private static void due(String call, long got, long want) {
    calls++;
    if (got != want) {
      wrong++;
      System.out.println("promise " + promise + ": " + call + " answered " + got + ", due is " + want);
    }
  }

  private static void due(String call, boolean got, boolean want) {
    due(call, got ? 1 : 0, want ? 1 : 0);
  }

  private static void feed(HayVotes v, int... bytes) {
    for (int at = 0; at < bytes.length; at += 20) {
      int[] m = new int[5];
      for (int i = 0; i < 20; i++) {
        m[i / 4] = m[i / 4] << 8 | (at + i < bytes.length ? bytes[at + i] & 255 : ' ');
      }
      v.feed(m[0], m[1], m[2], m[3], m[4]);
    }
  }

  private static int law(HayVotes v, String text) {
    feed(v, text.chars().toArray());
    return v.law(text.length());
  }

  private static HayVotes with(String law) {
    HayVotes v = new HayVotes();
    if (law(v, law) < 1) {
      wrong++;
      System.out.println("promise " + promise + ": no law: " + law);
    }
    return v;
  }

  private static String again(String text, int n) {
    return text.repeat(n);
  }

  public static void main(String[] args) {
    newObject();
    stack();
    cow();
    taste();
    salt();
    feed();
    lawReads();
    lawFaults();
    wouldLetters();
    wouldReckons();
    wouldRefuses();
    chooses();
    days();
    run();
    stackIs();
    cowIs();
    eaten();
    votes();
    campaign();
    power();
    share();
    seat();
    cut();
    foreseen();
    burns();
    salted();
    storm();
    seed();
    draw();
    keepAndUndo();
    check();
    count();
    fullMeadow();
    System.out.println(wrong == 0 ? calls + " answers, all as due" : wrong + " answers are not as due");
    if (wrong != 0) {
      System.exit(1);
    }
  }

  private static void newObject() {
    promise = 1;
    HayVotes v = new HayVotes();
    int[] counts = {0, 0, 0, 0, 0, 1, 0, -1, -1};
    for (int what = 0; what < counts.length; what++) {
      due("count(" + what + ")", v.count(what), counts[what]);
    }
    for (int k = 0; k < 5; k++) {
      due("votes(" + k + ")", v.votes(k), 0);
    }
    due("undo()", v.undo(), false);
    due("NONE", HayVotes.NONE, -1);
    v.stack(0, 0, 0, 1, 1, 1);
    due("count(1) of another one", new HayVotes().count(1), 0);
    v.cow(0, 0, false, 1);
    due("would(0, 0) without a law", v.would(0, 0), 0);
    due("days(1) without a law", v.days(1), 0);
    due("HEAT without a law", v.stackIs(0, 5), 0);
  }

  private static void stack() {
    promise = 2;
    HayVotes v = new HayVotes();
    int[] good = {3, 4, 2, 50, 6, 7};
    int[] most = {9, 9, 4, 999, 99, 99};
    for (int i = 0; i < 6; i++) {
      for (int bad : new int[] {-1, most[i] + 1, Integer.MIN_VALUE, Integer.MAX_VALUE}) {
        int[] a = good.clone();
        a[i] = bad;
        due("stack with " + bad + " as argument " + i, v.stack(a[0], a[1], a[2], a[3], a[4], a[5]), -1);
      }
    }
    due("count(1)", v.count(1), 0);
    due("the least stack", v.stack(0, 0, 0, 0, 0, 0), 0);
    due("the greatest stack", v.stack(9, 9, 4, 999, 99, 99), 1);
    due("HAY", v.stackIs(1, 2), 999);
    due("on a square that is taken", v.stack(9, 9, 1, 1, 1, 1), -2);
    due("on a square that is taken, a bad colour", v.stack(9, 9, 5, 1, 1, 1), -1);
    due("x and y the other way round", v.stack(0, 9, 0, 0, 0, 0), 2);
    for (int i = 3; i < 12; i++) {
      due("stack " + i, v.stack(i - 2, 5, 0, 0, 0, 0), i);
    }
    due("a 13th", v.stack(0, 1, 0, 0, 0, 0), -1);
    due("count(1)", v.count(1), 12);

    HayVotes w = with("g99(k=1)");
    w.stack(1, 1, 1, 5, 0, 0);
    w.stack(2, 2, 0, 5, 0, 0);
    w.days(6);
    due("one is burnt", w.count(6), 1);
    due("on the square of the burnt one", w.stack(1, 1, 3, 7, 0, 0), 2);
    due("on the square of the one that stands", w.stack(2, 2, 3, 7, 0, 0), -2);
    for (int i = 3; i < 12; i++) {
      due("stack " + i, w.stack(i - 3, 8, 0, 0, 0, 0), i);
    }
    due("gone ones count, too", w.stack(9, 9, 0, 0, 0, 0), -1);
  }

  private static void cow() {
    promise = 3;
    HayVotes v = new HayVotes();
    due("x -1", v.cow(-1, 0, false, 1), -1);
    due("x 10", v.cow(10, 0, false, 1), -1);
    due("y -1", v.cow(0, -1, false, 1), -1);
    due("y 10", v.cow(0, 10, false, 1), -1);
    due("hunger 0", v.cow(0, 0, false, 0), -1);
    due("hunger 10", v.cow(0, 0, true, 10), -1);
    due("hunger far off", v.cow(0, 0, true, Integer.MIN_VALUE), -1);
    for (int i = 0; i < 16; i++) {
      due("cow " + i, v.cow(9, i % 2 * 9, i == 3, 1 + i % 9), i);
    }
    due("a 17th", v.cow(0, 0, false, 1), -1);
    due("count(2)", v.count(2), 16);
    due("VOTES of a bull", v.cowIs(3, 1), 9);
    due("VOTES of a cow", v.cowIs(4, 1), 1);
    due("HUNGER", v.cowIs(8, 2), 9);
    due("LAST VOTE at first", v.cowIs(0, 3), -2);
    due("TASTE at first", v.cowIs(0, 12), 0);
  }

  private static void taste() {
    promise = 4;
    HayVotes v = new HayVotes();
    due("no cow", v.taste(0, 0, 0), false);
    v.cow(0, 0, false, 1);
    due("least", v.taste(0, 0, -9), true);
    due("most", v.taste(0, 4, 9), true);
    due("below", v.taste(0, 0, -10), false);
    due("above", v.taste(0, 4, 10), false);
    due("colour -1", v.taste(0, -1, 0), false);
    due("colour 5", v.taste(0, 5, 0), false);
    due("cow 1", v.taste(1, 0, 0), false);
    due("cow -1", v.taste(-1, 0, 0), false);
    due("TASTE for 0", v.cowIs(0, 10), -9);
    due("TASTE for 4", v.cowIs(0, 14), 9);
    due("TASTE for 3", v.cowIs(0, 13), 0);
  }

  private static void salt() {
    promise = 5;
    HayVotes v = with("n(s=1);e5(1=1);g99(k=1)");
    due("no stack", v.salt(0, 0), false);
    v.stack(0, 0, 0, 99, 0, 0);
    v.stack(1, 0, 1, 99, 0, 0);
    v.cow(0, 0, false, 1);
    due("salt(0, 2)", v.salt(0, 2), true);
    due("day -1", v.salt(1, -1), false);
    due("day 1000", v.salt(1, 1000), false);
    due("stack 2", v.salt(2, 0), false);
    due("stack -2", v.salt(-2, 0), false);
    due("count(7)", v.count(7), 0);
    due("count(8)", v.count(8), 2);
    due("would ahead of the day", v.would(0, 0), 5);
    v.days(2);
    due("would on the day", v.would(0, 0), 0);
    due("in place of the one before", v.salt(1, 999), true);
    due("would at the one before", v.would(0, 0), 5);
    due("count(8)", v.count(8), 999);
    due("none, any day", v.salt(-1, 5000), true);
    due("count(7)", v.count(7), -1);
    due("count(8)", v.count(8), -1);
    v.salt(1, 0);
    v.days(4);
    due("stack 1 is burnt", v.stackIs(1, 6), 0);
    due("salt on a gone one", v.salt(1, 0), false);
    due("the salt stays where it was", v.count(7), 1);
  }

  private static void feed() {
    promise = 6;
    HayVotes v = new HayVotes();
    for (int i = 1; i <= 11; i++) {
      due("feed " + i, v.feed(i, 0, 0, 0, 0), 20 * i);
    }
    due("a 12th", v.feed(0, 0, 0, 0, 0), -1);
    due("count(4)", v.count(4), 220);

    HayVotes w = new HayVotes();
    w.feed(('e' << 24) | ('1' << 16) | ('(' << 8) | '1', ('=' << 24) | ('1' << 16) | (')' << 8) | ';', 0, 0, 0);
    due("the highest byte comes first", w.law(7), 1);
    w.feed(0x6e28683d, 0x31292020, -1, -1, -1);
    w.feed(0, 0, 0, 0, 0);
    due("behind the tape", w.count(4), 40);
    due("the first bytes stay the first", w.law(6), 1);
    due("empty then", w.count(4), 0);
    w.feed(0xffffff6e, 0, 0, 0, 0);
    due("bytes above 127", w.law(4), -1000);
  }

  private static void lawReads() {
    promise = 7;
    HayVotes v = new HayVotes();
    due("law(1) of an empty tape", v.law(1), -1);
    v.feed(0x6e28683d, 0x31290000, 0, 0, 0);
    for (int n : new int[] {0, -1, 21, 201, Integer.MIN_VALUE, Integer.MAX_VALUE}) {
      due("law(" + n + ")", v.law(n), -1);
    }
    due("the tape stays", v.count(4), 20);
    due("law(6)", v.law(6), 1);
    due("count(3)", v.count(3), 1);
    due("a fault", law(v, "n(h=1);e"), -1008);
    due("the law before stays", v.count(3), 1);
    due("empty after a fault", v.count(4), 0);
    due("two clauses", law(v, "n(h=1);n(h=2)"), 2);
    due("in place of the one before", law(v, "n(h=1)"), 1);
    String fourteen = again("n(h=1);", 13) + "n(h=1)";
    due("14 clauses", law(v, fourteen), 14);
    due("count(3)", v.count(3), 14);
    String longest = "e" + again("1+", 96) + "11(1=1)";
    due("length", longest.length(), 200);
    due("200 bytes", law(v, longest), 1);
    due("201 bytes", law(v, longest + " "), -1);
    due("the first 200 of them", v.law(200), 1);
    due("a number of five digits", law(v, "e99999(00000=0)"), 1);
    due("all letters", law(v, "eh+v+w+x+k+s+t+d+b+u(h<v&w>x|k=s&!t<d|!!(b=u))"), 1);
    due("the letters of a cow in g", law(v, "gt+d+b+u(t=d&b=u)"), 1);
    due("six of [ and six of (", law(v, "g[[[[[[1]]]]]]((((((h=0))))))"), 1);
    due("! ends with its piece", law(v, "n(!h=1&!h=1&!h=1&!h=1&!h=1&!h=1&!h=1|!h=1&!!!!!h=2)"), 1);
    due("[ after a closed (", law(v, "n((h=1)&!!!!![h]=1)"), -5013);
    due("[ in one another in n", law(v, "n([[[[[h]]]]]=[[[[[1]]]]])"), 1);
  }

  private static void lawFaults() {
    promise = 7;
    String[] texts = {"x", ";", " n(h=1)", "N(h=1)", "n(h=1) ", "nh=1", "n[h=1]", "e(h=1)", "e+1(h=1)", "e1+(h=1)", "e1++1(h=1)",
        "e-1(h=1)", "e1h(h=1)", "eh1(h=1)", "ehh(h=1)", "e[1(h=1)", "e[1](h=1", "e[1)](h=1)", "e[](h=1)", "e1](h=1)", "e(1)(h=1)",
        "n()", "n(h)", "n(h=)", "n(=h)", "n(h=1=1)", "n(h==1)", "n(h<=1)", "n(h=1&)", "n(h=1|)", "n(&h=1)", "n(h=1&&h=1)",
        "n(h=1!h=1)", "n(h!=1)", "n(!)", "n(!h)", "n((h)=1)", "n([h=1])", "n([h]=1)]", "n(h=1))", "n((h=1)", "n((h=1)=1)", "n((h=1)1)",
        "n(h=(1))", "n(h=1);;n(h=1)", "n(h=1);", "n(h=1),n(h=1)", "n(h=1)n(h=1)", "n(h=1);q(h=1)", "n(h=1);e1(h=a)", "e1(z=1)", "n(h=1;n(h=1)",
        "e123456(h=1)", "e12345(123456=1)", "e100000", "e0000000(h=1)", "e99999[", "n(h=1234567", "e12345a(h=1)"};
    int[] dues = {-1000, -1000, -1000, -1000, -1006, -1001, -1001, -1001, -1001, -1003, -1003,
        -1001, -1002, -1002, -1002, -1003, -1008, -1003, -1002, -1002, -1001,
        -1002, -1003, -1004, -1002, -1005, -1004, -1004, -1006, -1006, -1002, -1006,
        -1005, -1003, -1003, -1004, -1004, -1004, -1008, -1006, -1007, -1007, -1007,
        -1004, -1007, -1007, -1006, -1006, -1007, -1012, -1003, -1005,
        -2006, -2012, -2006, -2006, -1006, -2009, -1006};
    HayVotes v = new HayVotes();
    for (int i = 0; i < texts.length; i++) {
      due("law " + texts[i], law(v, texts[i]), dues[i]);
    }
    due("seven (", law(v, "n(((((((h=1)))))))"), -5007);
    due("seven [", law(v, "e[[[[[[[1]]]]]]](1=1)"), -5007);
    due("six ! in a (", law(v, "n(!!!!!!h=1)"), -5007);
    due("( ! [ mixed", law(v, "n(!(!([[h]]=1)))"), -5007);
    due("( [ mixed, right", law(v, "n(!(!([h]=1)))"), 1);
    due("a [ on the right side", law(v, "n(!!!!h=[[h]])"), -5009);
    due("a seventh ( where none can stand", law(v, "n((((((h(h=1"), -1008);
    due("a seventh [ where none can stand", law(v, "e[[[[[[1[1"), -1008);
    due("a sixth ! behind an E", law(v, "n(((((h=1!"), -1009);
    due("15 clauses", law(v, again("n(h=1);", 14) + "n(h=1)"), -4098);
    due("a 15th with a fault behind its letter", law(v, again("n(h=1);", 14) + "n"), -4098);
    due("a 15th of no kind", law(v, again("n(h=1);", 14) + "q"), -1098);
    due("a ; behind 14", law(v, again("n(h=1);", 14)), -1098);
    due("the first fault from the left", law(v, "e123456(((((((h"), -2006);
    feed(v, 'n', '(', 'h', '=', '1', ')', 0);
    due("a byte 0", v.law(7), -1006);
    feed(v, 'n', '(', 'h', '=', '1', ')', 10);
    due("a line's end", v.law(7), -1006);
    due("no law by all that", v.count(3), 1);
  }

  /** A stack of HAY 40, CLOVER 3, DAMP 8, COLOUR 2 at 7 1, and a cow at 4 9 of HUNGER 5, TASTE -4. */
  private static HayVotes scene(String law) {
    HayVotes v = with(law);
    v.stack(0, 0, 4, 0, 0, 0);
    v.stack(7, 1, 2, 40, 3, 8);
    v.cow(4, 9, false, 5);
    v.cow(7, 1, true, 1);
    v.taste(0, 2, -4);
    v.taste(0, 4, 9);
    return v;
  }

  private static void wouldLetters() {
    promise = 8;
    char[] letters = {'h', 'v', 'w', 'x', 'k', 's', 't', 'd', 'b', 'u'};
    int[] first = {40, 3, 8, 0, 2, 0, 0, 11, 1, 5};
    int[] second = {40, 3, 8, 0, 2, 0, 0, 0, 9, 1};
    for (int i = 0; i < letters.length; i++) {
      HayVotes v = scene("e" + letters[i] + "(1=1)");
      due("e by " + letters[i], v.would(0, 1), first[i]);
      due("e by " + letters[i] + " of the bull", v.would(1, 1), second[i]);
    }
    due("TASTE below 0", scene("et+9(1=1)").would(0, 1), 5);
    due("TASTE for another colour", scene("et(1=1)").would(0, 0), 9);
    HayVotes v = scene("es*7+x(1=1);g30(1=1)");
    v.salt(1, 1);
    due("s ahead", v.would(0, 1), 0);
    v.days(1);
    due("s and x then", v.would(0, 1), 37);
    due("x of the other", v.would(0, 0), 30);
    due("no cow", v.would(2, 1), -1);
    due("cow -1", v.would(-1, 1), -1);
    due("no stack", v.would(0, 2), -1);
    due("stack -1", v.would(0, -1), -1);
    due("a stack without HAY", v.would(1, 0), 30);
    HayVotes w = scene("e1(1=1);g99(k=2)");
    w.days(6);
    due("a gone one", w.would(0, 1), -1);
    due("one that stands", w.would(0, 0), 1);
  }

  private static void wouldReckons() {
    promise = 8;
    String[] es = {"7", "2+3*4", "[2+3]*4", "20-5-3", "100/7/2", "100/[7/2]", "17%5", "100%7*3", "2*9%5", "7-10", "999", "1000", "99999*99999",
        "65536*65536+5", "0-65536*32768", "[0-65536*32768]/[0-1]", "[0-65536*32768]%[0-1]+4", "[0-7]/2+10", "[0-7]%2+10", "65536*16384*2-1", "h-v*2+w",
        "00012", "[[[[[[8]]]]]]"};
    int[] dues = {7, 14, 20, 12, 7, 33, 2, 6, 3, 0, 999, 999, 0, 5, 0, 0, 4, 7, 9, 999, 42, 12, 8};
    dues[12] = Math.max(0, Math.min(999, 99999 * 99999));
    for (int i = 0; i < es.length; i++) {
      due("e" + es[i], scene("e" + es[i] + "(1=1)").would(0, 1), dues[i]);
    }
    String[] cs = {"1=1", "1=2", "1<2", "2<2", "2>1", "2>2", "!1=1", "!1=2", "!!1=1", "1=1&1=2", "1=1&1=1", "1=2|1=1", "1=2|1=2", "1=1|1=1&1=2",
        "1=2&1=1|1=1", "(1=1|1=1)&1=2", "!(1=1|1=2)", "!(1=1&1=2)", "!1=1|1=1", "!(1=2)&!1=2", "1=2|1=2|1=1", "1=1&1=1&1=2", "0-1<0", "1+1=2*1",
        "(1=2|(1=1&!1=2))&(1=1)", "!1=2&1=2", "!(1=2|1=2)&1=1|1=2", "65536*65536=0", "h=40&v=3&w=8&x=0&k=2&s=0&d=11&b=1&u=5&t=0-4"};
    boolean[] want = {true, false, true, false, true, false, false, true, true, false, true, true, false, true,
        true, false, false, true, true, true, true, false, true, true,
        true, false, true, true, true};
    due("as many as are due", cs.length, want.length);
    for (int i = 0; i < cs.length; i++) {
      due("e9(" + cs[i] + ")", scene("e9(" + cs[i] + ")").would(0, 1), want[i] ? 9 : 0);
      due("n(" + cs[i] + ")", scene("e9(1=1);n(" + cs[i] + ")").would(0, 1), want[i] ? 0 : 9);
    }
    due("the first whose C holds", scene("e1(1=2);e2(1=1);e3(1=1)").would(0, 1), 2);
    due("none holds", scene("e1(1=2);e2(h=0)").would(0, 1), 0);
    due("any n will do", scene("n(1=2);e9(1=1);n(h=40)").would(0, 1), 0);
    due("no n holds", scene("n(1=2);e9(1=1);n(h=41)").would(0, 1), 9);
    due("g is not asked", scene("g9(1=1)").would(0, 1), 0);
  }

  private static void wouldRefuses() {
    promise = 8;
    due("an E is 0", scene("e5+1/0(1=1);e7(1=1)").would(0, 1), 0);
    due("an E with % is 0", scene("e5+1%x(1=1);e7(1=1)").would(0, 1), 0);
    due("an E with a refused [E] is 0", scene("e5+[1/[v-3]](1=1)").would(0, 1), 0);
    due("0 through 0", scene("e5+0/0(1=1)").would(0, 1), 0);
    due("a C does not hold", scene("e5(1/0=0);e7(1=1)").would(0, 1), 7);
    due("a C does not hold, though a later part does", scene("e5(1/0=0|1=1);e7(1=1)").would(0, 1), 7);
    due("a C does not hold with a !", scene("e5(!1/0=1);e7(1=1)").would(0, 1), 7);
    due("a C does not hold with a !(", scene("e5(!(1/0=1));e7(1=1)").would(0, 1), 7);
    due("what does not matter is not asked: |", scene("e5(1=1|1/0=1);e7(1=1)").would(0, 1), 5);
    due("what does not matter is not asked: &", scene("e5(1=2&1/0=1|1=1);e7(1=1)").would(0, 1), 5);
    due("what does not matter is not asked: !", scene("e5(!(1=2&1/0=1));e7(1=1)").would(0, 1), 5);
    due("what matters is asked", scene("e5(1=1&1/0=1|1=1);e7(1=1)").would(0, 1), 7);
    due("a refused n does not forbid", scene("n(1/0=0);e7(1=1)").would(0, 1), 7);
    due("the next n does", scene("n(1/0=0);n(1=1);e7(1=1)").would(0, 1), 0);
    HayVotes v = scene("g9/x(1=1);g5(1=1)");
    v.days(1);
    due("a refused g is 0", v.stackIs(1, 5), 0);
  }

  private static void chooses() {
    promise = 9;
    HayVotes v = with("n(k=4);ev(1=1)");
    due("no cow", v.chooses(0), -1);
    v.cow(0, 0, false, 3);
    due("no stack", v.chooses(0), -1);
    v.stack(0, 0, 0, 5, 0, 0);
    due("at 0 at none", v.chooses(0), -1);
    v.stack(1, 0, 0, 0, 9, 0);
    due("none without HAY", v.chooses(0), -1);
    v.stack(2, 0, 0, 1, 3, 0);
    v.stack(3, 0, 0, 1, 3, 0);
    due("of like ones the lowest", v.chooses(0), 2);
    v.stack(4, 0, 4, 1, 99, 0);
    due("n forbids", v.chooses(0), 2);
    v.stack(5, 0, 1, 1, 4, 0);
    due("the most", v.chooses(0), 5);
    due("cow 1", v.chooses(1), -1);
    due("cow -1", v.chooses(-1), -1);
    HayVotes w = with("e1(1=1);g99(k=0)");
    w.cow(0, 0, false, 1);
    w.stack(0, 0, 0, 99, 0, 0);
    w.stack(1, 0, 1, 99, 0, 0);
    due("ahead of the fire", w.chooses(0), 0);
    w.days(6);
    due("not at a gone one", w.chooses(0), 1);
    v.taste(0, 1, 9);
    law(v, "e10+t(1=1)");
    due("by taste", v.chooses(0), 5);
    v.taste(0, 1, -9);
    due("by another taste", v.chooses(0), 0);
  }

  private static void days() {
    promise = 10;
    HayVotes v = with("eh(1=1);gh*2+s(1=1)");
    for (int n : new int[] {0, 21, -1, Integer.MAX_VALUE}) {
      due("days(" + n + ")", v.days(n), -1);
    }
    due("a day on an empty meadow", v.days(1), 0);
    due("20 days", v.days(20), 0);
    due("THE DAY", v.count(0), 21);
    v.stack(0, 0, 3, 10, 0, 0);
    v.stack(1, 0, 1, 7, 0, 0);
    v.cow(0, 0, false, 6);
    v.cow(0, 0, true, 9);
    v.cow(0, 0, false, 9);
    v.cow(0, 0, false, 9);
    // cow 0 takes 6 of stack 0 (4 left), cow 1 all 7 of stack 1, cow 2 the 4 of stack 0, cow 3 nothing
    due("days(1)", v.days(1), 17);
    due("HAY of 0", v.stackIs(0, 2), 0);
    due("HAY of 1", v.stackIs(1, 2), 0);
    due("votes(3)", v.votes(3), 2);
    due("votes(1)", v.votes(1), 9);
    due("LAST VOTE of 0", v.cowIs(0, 3), 3);
    due("LAST VOTE of 1", v.cowIs(1, 3), 1);
    due("LAST VOTE of 3", v.cowIs(3, 3), -2);
    due("eaten(0, 2)", v.eaten(0, 2), 4);
    due("g is asked behind the cows", v.stackIs(0, 5), 0);
    due("THE DAY", v.count(0), 22);

    HayVotes w = with("g99(k=0);g100(k=1);g0-5(k=2);g50(s=1);gt+d+b+u(k=4)");
    for (int k = 0; k < 5; k++) {
      w.stack(k, 0, k, 10, 0, 0);
    }
    w.cow(9, 9, true, 9);
    w.taste(0, 4, 9);
    w.salt(3, 2);
    w.days(5);
    due("five times 99", w.stackIs(0, 5), 495);
    due("99 at most", w.stackIs(1, 5), 495);
    due("0 at least", w.stackIs(2, 5), 0);
    due("from DAY 2 on", w.stackIs(3, 5), 150);
    due("no cow in g", w.stackIs(4, 5), 0);
    due("they stand", w.count(6), 5);
    w.days(1);
    due("two are gone", w.count(6), 3);
    due("with all its HAY", w.stackIs(0, 2), 0);
    due("HAY of another", w.stackIs(3, 2), 10);
    due("HEAT of the gone one", w.stackIs(0, 5), 594);
    w.days(20);
    due("a gone one is not hotter", w.stackIs(0, 5), 594);

    HayVotes u = with("g50(1=1)");
    u.stack(0, 0, 0, 1, 0, 0);
    u.days(9);
    due("450", u.stackIs(0, 5), 450);
    due("stands at 450", u.stackIs(0, 6), 1);
    u.days(1);
    due("gone at 500", u.stackIs(0, 6), 0);

    HayVotes t = with("e100-h(1=1)");
    t.stack(0, 0, 0, 9, 0, 0);
    t.stack(1, 0, 1, 9, 0, 0);
    t.cow(0, 0, false, 1);
    t.cow(0, 0, false, 1);
    t.days(2);
    due("as it is then", t.eaten(0, -1), 4);
    HayVotes r = with("e1(h>5);e2(1=1)");
    r.stack(0, 0, 0, 7, 0, 0);
    r.stack(1, 0, 1, 7, 0, 0);
    r.cow(0, 0, false, 2);
    r.cow(0, 0, false, 2);
    r.cow(0, 0, false, 2);
    due("days(1)", r.days(1), 6);
    due("all at the first", r.eaten(0, -1), 6);
    due("the rest", r.days(1), 5);
    due("1 of the first", r.eaten(0, 0), 3);
    due("two at the other", r.eaten(1, -1), 4);
  }

  private static void run() {
    promise = 11;
    HayVotes v = with("e9-k(1=1);g99(k=4)");
    due("run on an empty meadow", v.run(1, 5), -2);
    v.stack(0, 0, 1, 3, 0, 0);
    v.stack(1, 0, 2, 9, 0, 0);
    v.stack(2, 0, 4, 8, 0, 0);
    v.cow(0, 0, false, 3);
    v.days(1);
    v.stack(3, 0, 0, 3, 0, 0);
    due("votes so far don't count", v.run(1, 1), 0);
    due("run(1, 0)", v.run(1, 0), 1);
    due("run(1, 5)", v.run(1, 5), 0);
    due("a tie", v.run(2, 5), -2);
    due("run(2, 2)", v.run(2, 2), 1);
    due("run(3, 5)", v.run(3, 5), 2);
    due("run(4, 6)", v.run(4, 6), 0);
    due("run(5, 6)", v.run(5, 6), 1);
    due("run(20, 6)", v.run(20, 6), 1);
    due("HAY then", v.run(2, 11), 6);
    due("HAY of the one that burns", v.run(5, 12), 0);
    due("HAY of one before", v.run(4, 12), 8);
    due("run(1, 13)", v.run(1, 13), 0);
    due("no stack 4", v.run(1, 14), -1);
    for (int what : new int[] {-1, 7, 8, 9, 22, Integer.MIN_VALUE, Integer.MAX_VALUE}) {
      due("run(1, " + what + ")", v.run(1, what), -1);
    }
    due("run(0, 0)", v.run(0, 0), -1);
    due("run(21, 0)", v.run(21, 0), -1);
    due("THE DAY stays", v.count(0), 1);
    due("HAY stays", v.stackIs(3, 2), 3);
    due("votes stay", v.votes(0), 0);
    due("EATEN stays", v.eaten(-1, -1), 3);
    v.days(5);
    due("a gone one's HAY", v.run(1, 12), 0);
    due("burnt before does not count", v.run(1, 6), 0);
  }

  private static void stackIs() {
    promise = 12;
    HayVotes v = with("g7(1=1)");
    v.stack(3, 8, 4, 567, 89, 12);
    v.days(2);
    int[] dues = {83, 4, 567, 89, 12, 14, 1};
    for (int what = 0; what < 7; what++) {
      due("stackIs(0, " + what + ")", v.stackIs(0, what), dues[what]);
    }
    for (int what : new int[] {-1, 7, Integer.MIN_VALUE}) {
      due("stackIs(0, " + what + ")", v.stackIs(0, what), -1);
    }
    due("stackIs(1, 0)", v.stackIs(1, 0), -1);
    due("stackIs(-1, 0)", v.stackIs(-1, 0), -1);
    due("stackIs(12, 0)", v.stackIs(12, 0), -1);
  }

  private static void cowIs() {
    promise = 13;
    HayVotes v = with("e1(1=1)");
    v.cow(3, 8, true, 7);
    due("SQUARE", v.cowIs(0, 0), 83);
    due("VOTES", v.cowIs(0, 1), 9);
    due("HUNGER", v.cowIs(0, 2), 7);
    due("LAST VOTE", v.cowIs(0, 3), -2);
    v.stack(0, 0, 0, 9, 0, 0);
    v.days(1);
    due("LAST VOTE then", v.cowIs(0, 3), 0);
    v.taste(0, 1, -7);
    due("TASTE", v.cowIs(0, 11), -7);
    for (int what : new int[] {-1, 4, 9, 15, Integer.MAX_VALUE}) {
      due("cowIs(0, " + what + ")", v.cowIs(0, what), -1000);
    }
    due("cowIs(1, 0)", v.cowIs(1, 0), -1000);
    due("cowIs(-1, 0)", v.cowIs(-1, 0), -1000);
  }

  private static void eaten() {
    promise = 14;
    HayVotes v = with("e1+t(1=1);g99(k=1)");
    due("nothing of none", v.eaten(-1, -1), 0);
    v.stack(0, 0, 0, 99, 0, 0);
    v.stack(1, 0, 1, 99, 0, 0);
    v.cow(0, 0, false, 2);
    v.cow(0, 0, false, 5);
    v.taste(1, 1, 1);
    v.days(6);
    due("eaten(0, 0)", v.eaten(0, 0), 12);
    due("eaten(1, 1)", v.eaten(1, 1), 30);
    due("eaten(0, 1)", v.eaten(0, 1), 0);
    due("of a gone one", v.stackIs(1, 6), 0);
    v.days(1);
    due("eaten(0, -1)", v.eaten(0, -1), 19);
    due("eaten(-1, 1)", v.eaten(-1, 1), 35);
    due("eaten(-1, -1)", v.eaten(-1, -1), 49);
    due("eaten(2, 0)", v.eaten(2, 0), -2);
    due("eaten(0, 2)", v.eaten(0, 2), -2);
    due("eaten(-2, 0)", v.eaten(-2, 0), -2);
    due("eaten(0, -2)", v.eaten(0, -2), -2);
    due("eaten(-1, 2)", v.eaten(-1, 2), -2);
    due("eaten(2, -1)", v.eaten(2, -1), -2);
  }

  private static void votes() {
    promise = 15;
    HayVotes v = with("e1(1=1)");
    v.stack(0, 0, 4, 99, 0, 0);
    v.cow(0, 0, true, 1);
    v.cow(0, 0, false, 1);
    v.days(3);
    due("votes(4)", v.votes(4), 30);
    due("votes(0)", v.votes(0), 0);
    due("votes(-1)", v.votes(-1), -1);
    due("votes(5)", v.votes(5), -1);
  }

  private static void campaign() {
    promise = 16;
    // the rival has 10 of clover; stacks 1 to 5 of colour 1 come near, the fifth (6) can't be spread on
    HayVotes v = with("ev(1=1);g99(w=1)");
    v.stack(0, 0, 0, 99, 10, 0);
    v.stack(1, 0, 1, 99, 7, 1);
    for (int i = 0; i < 4; i++) {
      v.stack(2 + i, 0, 1, 99, 8, 0);
    }
    v.stack(9, 0, 1, 99, 10, 0);
    v.cow(0, 0, false, 1);
    due("pence", v.campaign(1, 1, -1), 3);
    int[] row = {0, 0, 0, 3};
    for (int i = 0; i < 4; i++) {
      due("the least row, " + i, v.campaign(1, 1, i), row[i]);
    }
    v.days(6);
    due("stack 1 is burnt", v.stackIs(1, 6), 0);
    due("nothing was spread", v.stackIs(4, 3), 8);
    due("the first four that stand", v.campaign(1, 6, 3), 3);
    due("the fourth is stack 5", v.campaign(1, 6, 4), 3);
    due("and it is spread", v.stackIs(5, 3), 11);
    due("nowhere else", v.stackIs(4, 3), 8);
    due("it wins as it is now", v.campaign(1, 6, -1), 0);
    due("how much", v.campaign(1, 6, 0), 0);
    due("0 can win again, as the lowest of like ones", v.campaign(0, 2, -1), 1);
    due("one stack only", v.campaign(0, 2, 1), -3);
    due("no stack of it", v.campaign(2, 2, -1), -2);
    due("no stack of it, spread", v.campaign(2, 2, 4), -2);
    due("no stack of it, the first", v.campaign(2, 2, 0), -3);
    for (int[] bad : new int[][] {{-1, 1, -1}, {5, 1, -1}, {0, 0, -1}, {0, 7, -1}, {0, 1, -2}, {0, 1, 5}}) {
      due("campaign(" + bad[0] + ", " + bad[1] + ", " + bad[2] + ")", v.campaign(bad[0], bad[1], bad[2]), -3);
    }

    HayVotes w = with("ev(1=1)");
    w.stack(0, 0, 0, 99, 99, 0);
    w.stack(1, 0, 1, 99, 98, 0);
    w.cow(0, 0, false, 1);
    due("99 at most", w.campaign(1, 1, -1), -2);
    law(w, "ev(k=1);ev-1(1=1)");
    due("98 and 1", w.campaign(1, 1, 4), 1);
    due("CLOVER", w.stackIs(1, 3), 99);

    HayVotes u = with("ev*2(k=1&v<99);e50(1=1)");
    u.stack(0, 0, 0, 99, 0, 0);
    u.stack(1, 0, 1, 99, 23, 0);
    u.stack(2, 0, 1, 99, 24, 0);
    u.cow(0, 0, false, 1);
    due("the least pence go before the least row", u.campaign(1, 3, -1), 2);
    due("on the second", u.campaign(1, 3, 1), 2);
    due("not on the first", u.campaign(1, 3, 0), 0);
    HayVotes t = with("ev(1=1)");
    t.stack(0, 0, 0, 1, 5, 0);
    t.stack(1, 0, 1, 9, 5, 0);
    t.cow(0, 0, false, 1);
    due("0 wins the first day", t.campaign(1, 1, -1), 1);
    due("a tie is not won", t.campaign(1, 2, -1), 1);
    due("but by three days it is", t.campaign(1, 3, -1), 0);
    due("for 0 a tie, too", t.campaign(0, 2, -1), -2);
    for (int places = 1; places <= 4; places++) {
      // each of the cows eats at the one stack that has its clover, so all must come to 8
      HayVotes all = with("e9(k=0);e10(k=1&v=8&u=h)");
      all.stack(0, 9, 0, 99, 0, 0);
      for (int i = 0; i < places; i++) {
        all.stack(i, 0, 1, i + 1, 5, 0);
        all.cow(0, 0, false, i + 1);
        all.cow(0, 0, false, 9);
      }
      all.cow(0, 0, false, 8);
      due("a tie or less with all", all.campaign(1, 1, -1), -2);
      HayVotes most = with("e9(k=0&u=9);e10(k=1&v=8&u=h)");
      most.stack(0, 9, 0, 99, 0, 0);
      for (int i = 0; i < places; i++) {
        most.stack(i, 0, 1, i + 1, 5, 0);
        most.cow(0, 0, false, i + 1);
      }
      for (int i = 1; i < places; i++) {
        most.cow(0, 0, false, 9);
      }
      due("three on each of " + places, most.campaign(1, 1, -1), 3 * places);
      due("three on the last", most.campaign(1, 1, places - 1), 3);
    }
  }

  private static void power() {
    promise = 17;
    HayVotes v = new HayVotes();
    due("no cow", v.power(0), -1);
    v.cow(0, 0, false, 1);
    due("alone", v.power(0), 1);
    v.cow(0, 0, false, 1);
    due("of two both are needed", v.power(0), 1);
    v.cow(0, 0, true, 1);
    due("a bull rules two", v.power(2), 4);
    due("cow 0 has none", v.power(0), 0);
    for (int i = 3; i < 16; i++) {
      v.cow(0, 0, false, 1);
    }
    // 24 votes, 13 are more than half: of 15 others 4 to 12
    due("a bull with 15", v.power(2), 32768 - 1 - 15 - 105 - 455 - 105 - 15 - 1);
    // with the bull and 3 of 14, or without it 12 of 14
    due("a cow with 14 and the bull", v.power(0), 364 + 91);
    due("power(16)", v.power(16), -1);
    due("power(-1)", v.power(-1), -1);
    HayVotes w = new HayVotes();
    for (int i = 0; i < 16; i++) {
      w.cow(0, 0, true, 1);
    }
    due("8 of 15", w.power(15), 6435);
  }

  private static void share() {
    promise = 18;
    HayVotes v = new HayVotes();
    due("no cow", v.share(0, 0), -1);
    v.cow(0, 0, false, 1);
    due("alone", v.share(0, 0), 1);
    due("alone", v.share(0, 1), 1);
    v.cow(0, 0, true, 1);
    due("nothing", v.share(0, 0), 0);
    due("nothing of one", v.share(0, 1), 1);
    for (int i = 2; i < 16; i++) {
      v.cow(0, 0, false, 1);
    }
    due("the bull, above", v.share(1, 0), 9);
    due("the bull, below", v.share(1, 1), 16);
    due("a cow, above", v.share(0, 0), 7);
    due("a cow, below", v.share(0, 1), 240);
    due("what 2", v.share(0, 2), -1);
    due("what -1", v.share(0, -1), -1);
    due("cow 16", v.share(16, 0), -1);
    due("cow -1", v.share(-1, 0), -1);
  }

  private static void seat() {
    promise = 19;
    HayVotes v = with("e9-d(d<4)");
    int[][] corners = {{0, 0}, {9, 0}, {0, 9}, {9, 9}};
    for (int i = 0; i < 4; i++) {
      due("without", v.seat(i), -2);
      v.stack(corners[i][0], corners[i][1], 4 - i, 99, 0, 0);
      v.cow(corners[i][0], corners[i][1], false, 1);
    }
    v.days(1);
    for (int i = 0; i < 4; i++) {
      due("seat(" + i + ")", v.seat(i), 4 - i);
    }
    due("seat(4)", v.seat(4), -1);
    due("seat(-1)", v.seat(-1), -1);

    HayVotes w = with("e10+t(1=1)");
    w.stack(0, 0, 3, 99, 0, 0);
    w.stack(1, 0, 1, 99, 0, 0);
    for (int i = 0; i < 10; i++) {
      w.cow(4, 4, i == 0, 1);
      w.taste(i, 1, i == 0 ? -1 : 1);
    }
    w.cow(5, 4, false, 1);
    w.cow(4, 5, true, 1);
    w.days(1);
    due("nine votes against nine: the lowest", w.seat(0), 1);
    due("x 5", w.seat(1), 3);
    due("y 5", w.seat(2), 3);
    due("nobody's", w.seat(3), -2);
    w.taste(9, 1, -1);
    w.days(1);
    due("ten against eight", w.seat(0), 3);
    w.cow(4, 4, true, 1);
    due("one without a last vote", w.seat(0), 3);
  }

  private static void cut() {
    promise = 20;
    HayVotes v = with("e10+t(1=1)");
    due("no cows", v.cut(0, 0), 0);
    due("no cows, x", v.cut(0, 1), 1);
    due("no cows, y", v.cut(0, 2), 1);
    v.stack(0, 0, 0, 99, 0, 0);
    v.stack(1, 0, 1, 99, 0, 0);
    int[][] squares = {{3, 7}, {2, 7}, {3, 6}, {2, 6}};
    for (int i = 0; i < 4; i++) {
      v.cow(squares[i][0], squares[i][1], i == 3, 1);
      v.taste(i, 1, i == 3 ? -1 : 1);
    }
    v.days(1);
    due("three seats of 1", v.cut(1, 0), 3);
    due("at x", v.cut(1, 1), 3);
    due("at y", v.cut(1, 2), 7);
    due("one seat of 0", v.cut(0, 0), 1);
    due("the least x", v.cut(0, 1), 1);
    due("the least y", v.cut(0, 2), 1);
    due("no seat of 2", v.cut(2, 0), 0);
    due("cut(5, 0)", v.cut(5, 0), -1);
    due("cut(-1, 0)", v.cut(-1, 0), -1);
    due("cut(0, 3)", v.cut(0, 3), -1);
    due("cut(0, -1)", v.cut(0, -1), -1);
    HayVotes w = with("e1(1=1)");
    w.stack(0, 0, 2, 99, 0, 0);
    w.cow(0, 4, false, 1);
    w.cow(9, 4, false, 1);
    w.days(1);
    due("two seats", w.cut(2, 0), 2);
    due("least x first", w.cut(2, 1), 1);
    due("then y", w.cut(2, 2), 1);
    w.cow(8, 3, false, 1);
    w.cow(9, 8, false, 1);
    w.cow(8, 8, false, 1);
    w.days(1);
    due("four seats", w.cut(2, 0), 4);
    due("8 to the left, 9 to the right", w.cut(2, 1), 9);
    due("4 above, 8 below", w.cut(2, 2), 5);
    for (int turned = 0; turned < 2; turned++) {
      // 4 has most votes of all, but neither at the one edge nor at the other: a cut at 10 would help it
      HayVotes u = with("e10+t(1=1)");
      for (int k = 0; k < 5; k++) {
        u.stack(k, 5, k, 99, 0, 0);
      }
      int[] tastes = {4, 0, 0, 4, 4, 1, 1};
      for (int c = 0; c < 7; c++) {
        int edge = c < 3 ? 0 : 9;
        u.cow(turned == 0 ? edge : 0, turned == 0 ? 0 : edge, false, 1);
        u.taste(c, tastes[c], 1);
      }
      u.days(1);
      due("a cut is at 1 to 9", u.cut(4, 0), 0);
      due("1 has one", u.cut(1, 0), 1);
    }
  }

  private static void foreseen() {
    promise = 21;
    HayVotes v = with("e10+t(u>1)");
    due("no cow", v.foreseen(0), -1);
    v.cow(0, 0, false, 1);
    due("no other one", v.foreseen(0), -2);
    for (int i = 1; i < 5; i++) {
      v.cow(0, 0, false, i == 4 ? 1 : 2);
      v.stack(i, 0, i, 99, 0, 0);
      v.taste(i, i, 5);
    }
    due("none has voted", v.foreseen(0), -2);
    v.days(1);
    due("of like ones the lowest", v.foreseen(0), 1);
    v.taste(0, 2, 1);
    due("least unlike", v.foreseen(0), 2);
    v.taste(0, 2, -1);
    due("without sign", v.foreseen(0), 1);
    v.taste(0, 4, 9);
    due("not by one without a last vote", v.foreseen(0), 1);
    due("another one", v.foreseen(1), 2);
    due("foreseen(5)", v.foreseen(5), -1);
    due("foreseen(-1)", v.foreseen(-1), -1);
  }

  private static void burns() {
    promise = 22;
    HayVotes v = with("g99(x<400);g89(1=1)");
    due("no stack", v.burns(0, 1, 1, 0), -1);
    v.stack(0, 0, 0, 9, 0, 0);
    due("never, above", v.burns(0, 12, 30, 0), 0);
    due("never, below", v.burns(0, 12, 30, 1), 1);
    v.days(5);
    due("HEAT", v.stackIs(0, 5), 495);
    due("at most 4", v.burns(0, 1, 4, 0), 0);
    due("5 of 0 to 5", v.burns(0, 1, 5, 0), 1);
    due("5 of 0 to 5", v.burns(0, 1, 5, 1), 6);
    // 1 a day at most: 5 of 12 days at least: 4096 less 1 + 12 + 66 + 220 + 495
    due("12 days, above", v.burns(0, 12, 1, 0), (4096 - 794) / 2);
    due("12 days, below", v.burns(0, 12, 1, 1), 2048);
    // two dice of 0 to 9: 15 of 100 come to 4 or less
    due("two days", v.burns(0, 2, 9, 0), 17);
    due("two days", v.burns(0, 2, 9, 1), 20);
    long all = 1;
    for (int i = 0; i < 12; i++) {
      all *= 31;
    }
    // 12 days with 4 together at most: (16 over 4) ways
    due("the greatest, above", v.burns(0, 12, 30, 0), all - 1820);
    due("the greatest, below", v.burns(0, 12, 30, 1), all);
    due("n 0", v.burns(0, 0, 1, 0), -1);
    due("n 13", v.burns(0, 13, 1, 0), -1);
    due("k 0", v.burns(0, 1, 0, 0), -1);
    due("k 31", v.burns(0, 1, 31, 0), -1);
    due("what 2", v.burns(0, 1, 1, 2), -1);
    due("what -1", v.burns(0, 1, 1, -1), -1);
    due("stack 1", v.burns(1, 1, 1, 0), -1);
    due("stack -1", v.burns(-1, 1, 1, 0), -1);
    v.days(1);
    due("gone", v.burns(0, 1, 1, 0), -1);
  }

  private static int salted(HayVotes v, int what, int... words) {
    feed(v, words);
    return v.salted(words.length / 3, what);
  }

  private static void salted() {
    promise = 23;
    HayVotes v = with("n(s=1);e9-k(1=1);g99(k=4)");
    due("an empty tape", v.salted(1, 0), -3);
    v.stack(0, 0, 0, 999, 0, 0);
    v.stack(1, 0, 1, 999, 0, 0);
    v.stack(2, 0, 4, 999, 0, 0);
    v.cow(0, 0, false, 1);
    // the cow eats at 0 unless that is salted: 0 at 0, then 1
    int[] words = {0, 0, 2, 0, 1, 3};
    due("how many", salted(v, 0, words), 1);
    due("the stack", salted(v, 1, words), 0);
    due("its day", salted(v, 2, words), 3);
    due("at 0 on day 4: all but 0 from 0 to 4", salted(v, 0, 0, 0, 4), 31 - 5);
    due("at 0 on day 9: the first is of stack 1", salted(v, 1, 0, 0, 9), 1);
    due("from day 0", salted(v, 2, 0, 0, 9), 0);
    due("at none: none fits", salted(v, 0, 0, 255, 0), 0);
    due("13", salted(v, 1, 0, 255, 0), 13);
    due("13", salted(v, 2, 0, 255, 0), 13);
    v.days(6);
    due("stack 2 is gone", v.stackIs(2, 6), 0);
    due("days from now", salted(v, 2, words), 3);
    due("standing ones only", salted(v, 0, 0, 0, 4), 21 - 5);
    due("words of a gone one fit none", salted(v, 0, 0, 2, 0), 0);
    v.salt(0, 0);
    due("what is salted now is put aside", salted(v, 0, words), 1);
    due("and stays", v.count(7), 0);
    due("THE DAY stays", v.count(0), 6);
    due("HAY stays", v.stackIs(0, 2), 993);

    HayVotes w = with("e5+s(1=1)");
    w.cow(0, 0, false, 1);
    due("none can be salted", salted(w, 0, 0, 255, 0), 1);
    due("12", salted(w, 1, 0, 255, 0), 12);
    due("12", salted(w, 2, 0, 255, 0), 12);
    due("no stack 0", salted(w, 0, 0, 0, 0), -2);
    due("empty then", w.count(4), 0);
    due("no cow 1", salted(w, 0, 1, 255, 0), -2);
    due("no day 10", salted(w, 0, 0, 255, 10), -2);
    due("a bad one behind good ones", salted(w, 0, 0, 255, 0, 0, 255, 9, 0, 254, 0), -2);
    int[] thirty = new int[90];
    for (int i = 0; i < 30; i++) {
      thirty[3 * i + 1] = 255;
      thirty[3 * i + 2] = i % 10;
    }
    due("30 words", salted(w, 0, thirty), 1);
    feed(w, new int[100]);
    due("31 words", w.salted(31, 0), -3);
    due("n 0", w.salted(0, 0), -3);
    due("what 3", w.salted(1, 3), -3);
    due("what -1", w.salted(1, -1), -3);
    due("the tape stays", w.count(4), 100);
    due("by the first bytes only", salted(w, 0, 0, 255, 0), -2);
    feed(w, 0, 255, 0);
    due("six words in 20 bytes, the last ones blanks", w.salted(6, 0), -2);
    feed(w, 0, 255, 0);
    due("7 words have 21 bytes", w.salted(7, 0), -3);
  }

  private static void storm() {
    promise = 24;
    HayVotes v = with("e1(1=1);g10+w(1=1)");
    for (int way : new int[] {0, 10, -1, Integer.MAX_VALUE}) {
      due("storm(" + way + ")", v.storm(way), -1);
    }
    due("an empty meadow", v.storm(9), 0);
    v.stack(0, 0, 0, 10, 60, 5);
    v.stack(4, 0, 0, 20, 1, 30);
    v.stack(2, 0, 0, 40, 50, 20);
    v.stack(1, 0, 1, 80, 9, 9);
    v.stack(4, 3, 0, 999, 0, 0);
    v.cow(0, 0, false, 1);
    v.days(1);
    due("too far", v.storm(1), 0);
    due("0 with 2; 1 is 4 from it", v.storm(2), 1);
    due("2 is gone", v.stackIs(2, 6), 0);
    due("1 stands", v.stackIs(1, 6), 1);
    due("HAY", v.stackIs(0, 2), 49);
    due("CLOVER is 99 at most", v.stackIs(0, 3), 99);
    due("DAMP is the greater", v.stackIs(0, 4), 20);
    due("HEAT is the greater", v.stackIs(0, 5), 30);
    due("SQUARE", v.stackIs(0, 0), 0);
    due("HAY of the gone one", v.stackIs(2, 2), 0);
    due("EATEN stays its own", v.eaten(0, 0), 1);
    due("1 with 4 by y", v.storm(3), 1);
    due("HAY above 999", v.stackIs(1, 2), 1019);
    due("HEAT of the lower, if greater", v.stackIs(1, 5), 40);
    due("0 and 1", v.storm(9), 1);
    due("another colour stays", v.stackIs(3, 2), 80);
    due("count(6)", v.count(6), 2);
    HayVotes w = new HayVotes();
    for (int i = 0; i < 4; i++) {
      w.stack(i, i, 2, 1, 1, 1);
    }
    due("three join the lowest", w.storm(6), 3);
    due("HAY", w.stackIs(0, 2), 4);
    HayVotes u = new HayVotes();
    for (int i = 0; i < 4; i++) {
      u.stack(2 * i, 0, 2, 1, 1, 1);
    }
    due("two pairs", u.storm(2), 2);
    due("0 has 1", u.stackIs(0, 2), 2);
    due("2 has 3", u.stackIs(2, 2), 2);
    HayVotes t = with("e1(1=1)");
    t.stack(0, 0, 2, 9, 1, 1);
    t.stack(1, 0, 2, 9, 1, 1);
    t.cow(0, 0, false, 2);
    t.cow(0, 0, false, 9);
    t.cow(0, 0, false, 3);
    t.days(1);
    t.storm(1);
    due("EATEN of the gone one", t.eaten(1, 2), 3);
    due("EATEN of the lower", t.eaten(0, -1), 9);
  }

  private static void seed() {
    promise = 25;
    HayVotes v = new HayVotes();
    due("seed(-1)", v.seed(-1), false);
    due("seed(65536)", v.seed(65536), false);
    due("X", v.count(5), 1);
    due("seed(65535)", v.seed(65535), true);
    due("X", v.count(5), 65535);
    v.draw(1);
    due("X then", v.count(5), (25173L * 65535 + 13849) % 65536);
    due("seed(0)", v.seed(0), true);
    v.draw(1);
    due("X then", v.count(5), 13849);
  }

  private static void draw() {
    promise = 26;
    HayVotes v = with("e1(1=1)");
    for (int n : new int[] {0, 21, -1, Integer.MIN_VALUE}) {
      due("draw(" + n + ")", v.draw(n), -1);
    }
    due("X stays", v.count(5), 1);
    v.stack(0, 0, 0, 999, 0, 0);
    int[] x = new int[16];
    int[] y = new int[16];
    for (int i = 0; i < 14; i++) {
      x[i] = i % 2 * 9;
      y[i] = i / 2 % 2 * 9;
      v.cow(x[i], y[i], false, 1);
    }
    long seed = 1;
    for (int day = 1; day <= 100; day++) {
      seed = (25173 * seed + 13849) % 65536;
      int cow = (int) (seed % 16);
      int way = (int) (seed / 16 % 4);
      if (cow < 14) {
        y[cow] = Math.min(9, Math.max(0, y[cow] + (way == 0 ? 1 : way == 2 ? -1 : 0)));
        x[cow] = Math.min(9, Math.max(0, x[cow] + (way == 1 ? 1 : way == 3 ? -1 : 0)));
      }
      // 14 cows eat 994 of the 999 in 71 days
      due("draw(1) on day " + day, v.draw(1), day <= 71 ? 14 : day == 72 ? 5 : 0);
      due("SQUARE of " + cow, v.cowIs(cow, 0), cow < 14 ? 10 * y[cow] + x[cow] : -1000);
    }
    for (int i = 0; i < 14; i++) {
      due("SQUARE of " + i, v.cowIs(i, 0), 10 * y[i] + x[i]);
    }
    due("X", v.count(5), seed);
    due("THE DAY", v.count(0), 100);
    due("20 days", v.draw(20), 0);
    due("THE DAY", v.count(0), 120);
    HayVotes w = with("e5-d(1=1)");
    w.stack(1, 0, 0, 9, 0, 0);
    w.stack(0, 1, 1, 9, 0, 0);
    w.cow(0, 0, false, 1);
    // X is 16 * 1 after the step: cow 0 goes x + 1 ahead of the day
    int start = 0;
    while ((25173L * start + 13849) % 65536 != 16) {
      start++;
    }
    w.seed(start);
    due("draw(1)", w.draw(1), 1);
    due("X", w.count(5), 16);
    due("it went first", w.cowIs(0, 0), 1);
    due("and ate then", w.eaten(0, 0), 1);
  }

  private static void keepAndUndo() {
    promise = 27;
    HayVotes v = with("e10+t(1=1);g99(w=1)");
    due("keep() of nothing", v.keep(), 0);
    v.stack(0, 0, 0, 50, 3, 0);
    v.stack(1, 0, 1, 50, 3, 1);
    v.stack(2, 0, 0, 50, 3, 0);
    v.cow(4, 4, false, 2);
    v.cow(5, 5, true, 3);
    v.taste(0, 1, 4);
    v.salt(1, 7);
    v.seed(77);
    v.days(2);
    due("keep()", v.keep(), 3);
    promise = 28;
    int[] before = dump(v);
    for (int round = 0; round < 2; round++) {
      v.draw(9);
      v.storm(9);
      v.stack(9, 9, 4, 9, 9, 9);
      v.cow(9, 9, true, 9);
      v.taste(0, 4, 9);
      v.taste(2, 0, 4);
      v.taste(0, 1, -4);
      v.taste(2, 3, 4);
      v.days(1);
      v.salt(-1, 0);
      v.seed(5);
      v.campaign(4, 1, 4);
      if (round == 0) {
        law(v, "e1(1=1);n(h=1);n(h=2)");
        v.feed(1, 2, 3, 4, 5);
      }
      due("undo()", v.undo(), true);
      int[] after = dump(v);
      due("how many are told", after.length, before.length);
      for (int i = 0; i < before.length && i < after.length; i++) {
        due("after undo, number " + i, after[i], before[i]);
      }
      due("the law is not undone", v.count(3), 3);
      due("nor the tape", v.count(4), 20);
    }
    due("a new stack has its number again", v.stack(9, 9, 4, 9, 9, 9), 3);
    due("a new cow, too", v.cow(9, 9, true, 9), 2);
    due("nothing of the undone one stays: TASTE", v.cowIs(2, 13), 0);
    due("nothing of the undone one stays: TASTE", v.cowIs(2, 10), 0);
    due("nothing of the undone one stays: LAST VOTE", v.cowIs(2, 3), -2);
    due("nothing of the undone one stays: EATEN", v.eaten(3, -1), 0);
    due("nothing of the undone one stays: EATEN by it", v.eaten(-1, 2), 0);
    promise = 27;
    v.days(3);
    due("in place of the one before", v.keep(), v.count(6));
    v.days(1);
    due("undo()", v.undo(), true);
    due("THE DAY", v.count(0), 5);
    promise = 28;
    due("undo() of a new one", new HayVotes().undo(), false);
  }

  private static int[] dump(HayVotes v) {
    int[] all = new int[400];
    int n = 0;
    for (int s = 0; s < 12; s++) {
      for (int what = 0; what < 7; what++) {
        all[n++] = v.stackIs(s, what);
      }
    }
    for (int c = 0; c < 4; c++) {
      for (int what = 0; what < 15; what++) {
        all[n++] = v.cowIs(c, what);
      }
      for (int s = -1; s < 4; s++) {
        all[n++] = v.eaten(s, c);
      }
    }
    for (int what : new int[] {0, 1, 2, 5, 6, 7, 8}) {
      all[n++] = v.count(what);
    }
    for (int k = 0; k < 5; k++) {
      all[n++] = v.votes(k);
    }
    return all;
  }

  private static int check(HayVotes v, int stack, int n, int... numbers) {
    for (int at = 0; at < numbers.length; at += 5) {
      int[] m = new int[5];
      for (int i = 0; i < 5 && at + i < numbers.length; i++) {
        m[i] = numbers[at + i];
      }
      v.feed(m[0], m[1], m[2], m[3], m[4]);
    }
    return v.check(stack, n);
  }

  private static void check() {
    promise = 29;
    HayVotes v = with("e1+t(1=1);g99(k=1)");
    due("no stack", check(v, 0, 0), -2);
    v.stack(0, 0, 0, 999, 0, 0);
    v.stack(1, 0, 1, 999, 0, 0);
    due("no cows, no numbers", check(v, 0, 0), -1);
    due("no cows, one number", check(v, 0, 1, 0), 0);
    for (int i = 0; i < 3; i++) {
      v.cow(0, 0, false, i + 2);
    }
    v.taste(1, 1, 1);
    v.days(5);
    due("right", check(v, 0, 3, 10, 0, 20), -1);
    due("empty then", v.count(4), 0);
    due("right of the other", check(v, 1, 3, 0, 15, 0), -1);
    due("the first is wrong", check(v, 0, 3, 11, 0, 21), 0);
    due("the second", check(v, 0, 3, 10, 1, 21), 1);
    due("the third", check(v, 0, 3, 10, 0, 21), 2);
    due("only the first two", check(v, 0, 2, 10, 0, 21), -1);
    due("none", check(v, 0, 0, 5), -1);
    due("empty then", v.count(4), 0);
    due("more than cows", check(v, 0, 4, 10, 0, 20, 0), 3);
    due("more than cows, one wrong", check(v, 0, 4, 10, 9, 20, 0), 1);
    due("all 16", check(v, 0, 16, 10, 0, 20, 0, 0, 0, 0, 0, 0, 0, 0, 0, 0, 0, 0, 0), 3);
    due("the highest byte counts", check(v, 0, 1, 10 | 1 << 24), 0);
    due("a negative one", check(v, 0, 1, -10), 0);
    v.feed(10, 0, 20, 0, 0);
    due("n 17", v.check(0, 17), -2);
    due("n -1", v.check(0, -1), -2);
    due("n 6 of 5", v.check(0, 6), -2);
    due("stack 2", v.check(2, 1), -2);
    due("stack -1", v.check(-1, 1), -2);
    due("the tape stays", v.count(4), 20);
    due("and is right", v.check(0, 3), -1);
    v.days(1);
    due("a gone one", v.stackIs(1, 6), 0);
    due("of a gone one", check(v, 1, 3, 0, 18, 0), -1);
    HayVotes w = with("e1(1=1)");
    w.stack(0, 0, 0, 999, 0, 0);
    w.cow(0, 0, false, 9);
    w.days(20);
    w.days(20);
    due("more than a byte", check(w, 0, 1, 360), -1);
    due("another low byte", check(w, 0, 1, 361), 0);
    due("another high byte", check(w, 0, 1, 360 - 256), 0);
  }

  private static void count() {
    promise = 30;
    HayVotes v = with("e1(1=1);g99(k=1);n(1=2)");
    v.stack(0, 0, 0, 9, 0, 0);
    v.stack(1, 0, 1, 9, 0, 0);
    v.stack(2, 0, 2, 9, 0, 0);
    v.cow(0, 0, false, 1);
    v.cow(0, 0, false, 1);
    v.salt(2, 44);
    v.feed(0, 0, 0, 0, 0);
    v.feed(0, 0, 0, 0, 0);
    v.days(6);
    int[] dues = {6, 3, 2, 3, 40, 1, 2, 2, 44};
    for (int what = 0; what < 9; what++) {
      due("count(" + what + ")", v.count(what), dues[what]);
    }
    for (int what : new int[] {-1, 9, Integer.MIN_VALUE, Integer.MAX_VALUE}) {
      due("count(" + what + ")", v.count(what), -1);
    }
  }

  /** 12 stacks and 16 cows: the last ones are used as well. */
  private static void fullMeadow() {
    promise = 10;
    HayVotes v = with("e1+t(1=1);gk(1=1)");
    for (int s = 0; s < 12; s++) {
      v.stack(s % 10, s / 10 * 9, s % 5, 400, s, 0);
    }
    for (int c = 0; c < 16; c++) {
      v.cow(9 - c % 10, 9, c == 15, 1 + c % 9);
      v.taste(c, c % 5, 1);
    }
    int hunger = 2 * 45 - 8 - 9;
    due("days(2)", v.days(2), 2 * hunger);
    due("eaten(-1, 15)", v.eaten(-1, 15), 14);
    due("eaten(11, -1)", v.eaten(11, -1), 0);
    due("votes(0)", v.votes(0), 2 * (3 + 9));
    due("HEAT of 11", v.stackIs(11, 5), 2);
    promise = 11;
    due("HAY of 11", v.run(20, 21), 400);
    due("who wins", v.run(20, 5), 0);
    promise = 16;
    due("campaign for 1", v.campaign(1, 3, -1), -2);
    due("campaign for 0", v.campaign(0, 3, 2), 0);
    due("0 has three stacks", v.campaign(0, 3, 3), -3);
    promise = 23;
    due("salted: nothing asks for s", salted(v, 0, 15, 0, 9), 121);
    due("the first", salted(v, 1, 15, 0, 9), 0);
    due("at 11 none", salted(v, 0, 15, 11, 9), 0);
    promise = 26;
    due("draw(2)", v.draw(2), 2 * hunger);
    promise = 27;
    due("keep()", v.keep(), 12);
    promise = 24;
    due("storm(9)", v.storm(9), 7);
    promise = 28;
    due("undo()", v.undo(), true);
    due("count(6)", v.count(6), 12);
    due("cow 15", v.cowIs(15, 1), 9);
    due("stack 11", v.stackIs(11, 3), 11);
    promise = 29;
    due("check", check(v, 11, 16, new int[16]), -1);
  }
}
