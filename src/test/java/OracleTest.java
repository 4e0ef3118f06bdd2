import java.math.BigInteger;
import java.util.ArrayList;
import java.util.Arrays;
import java.util.List;
import java.util.Random;

/**
 * Long runs of drawn calls, answered by HayVotes and by a second program that keeps to the words of
 * the document and goes other ways: it reads laws with a pile of open signs, tries every set of
 * cows, and joins stacks pair by pair.
 */
public final class OracleTest {
  private static int wrong = 0;

  public static void main(String[] args) {
    int runs = args.length > 0 ? Integer.parseInt(args[0]) : 120;
    long seed = args.length > 1 ? Long.parseLong(args[1]) : 1;
    for (int i = 0; i < runs && wrong < 20; i++) {
      new Run(seed * 1000003L + i).go();
    }
    for (int i = 0; i < runs && wrong < 20; i++) {
      new Run(seed * 3000017L + i).contest();
    }
    for (int i = 0; i < 20 * runs && wrong < 20; i++) {
      readLaws(seed * 7000003L + i);
    }
    System.out.println(wrong == 0 ? "all answers are as due" : wrong + " answers are not as due");
    if (wrong != 0) {
      System.exit(1);
    }
  }

  private static void readLaws(long seed) {
    Random random = new Random(seed);
    HayVotes votes = new HayVotes();
    for (int i = 0; i < 40; i++) {
      String text = new LawMaker(random).make();
      for (int[] meal : meals(text)) {
        votes.feed(meal[0], meal[1], meal[2], meal[3], meal[4]);
      }
      int got = votes.law(text.length());
      int want = LawCheck.answer(text);
      if (got != want) {
        wrong++;
        System.out.println("law " + text + " answered " + got + ", due is " + want);
      }
    }
  }

  static List<int[]> meals(String text) {
    List<int[]> meals = new ArrayList<>();
    for (int at = 0; at < text.length(); at += 20) {
      int[] meal = new int[5];
      for (int i = 0; i < 20; i++) {
        int sign = at + i < text.length() ? text.charAt(at + i) : ' ';
        meal[i / 4] = meal[i / 4] << 8 | sign;
      }
      meals.add(meal);
    }
    return meals;
  }

  /** One object and its double. */
  private static final class Run {
    final Random random;
    final HayVotes votes = new HayVotes();
    final Oracle oracle = new Oracle();
    final List<String> told = new ArrayList<>();
    final long seed;
    final int colours;
    int calls = 0;
    boolean bad = false;

    Run(long seed) {
      this.seed = seed;
      random = new Random(seed);
      colours = random.nextInt(5);
    }

    int pick(int least, int most) {
      return least + random.nextInt(most - least + 1);
    }

    /** Mostly from within the bounds, now and then one beside them, seldom a wild one. */
    int near(int least, int most) {
      int dice = random.nextInt(60);
      if (dice == 0) {
        return random.nextBoolean() ? Integer.MIN_VALUE : Integer.MAX_VALUE;
      }
      return dice < 4 ? pick(least - 2, most + 2) : pick(least, most);
    }

    void due(String call, long got, long want) {
      calls++;
      told.add(call + " -> " + got);
      if (got != want && !bad) {
        bad = true;
        wrong++;
        System.out.println("seed " + seed + ", call " + calls + ": " + call + " answered " + got + ", due is " + want);
        for (String s : told.subList(Math.max(0, told.size() - 40), told.size())) {
          System.out.println("    " + s);
        }
      }
    }

    void go() {
      feedLaw();
      int stacks = pick(0, 12);
      int cows = pick(0, 16);
      for (int i = 0; i < stacks; i++) {
        stack();
      }
      for (int i = 0; i < cows; i++) {
        cow();
        if (random.nextInt(2) == 0) {
          taste();
        }
      }
      while (calls < 450 && !bad) {
        any();
      }
      while (calls < 512 && !bad) {
        look();
      }
    }

    /** Stacks that are nearly alike, so that a little clover turns who wins, and hot ones. */
    void contest() {
      String[] laws = {"e10+v(1=1)", "e10+v*3-d(1=1)", "e9+v+t(1=1);g9*v(1=1)", "e[v+3]%5+1(1=1)", "e1+v%3(1=1);g99-w(1=1)",
          "ev(v>2);e1(1=1);gw(1=1)", "e5+v-h/9(1=1);n(s=1);g95+w%5(1=1)", "e50+v*2-d*3+t(1=1);n(v%4=d%4)", "e40-v*5+d(1=1)"};
      feedText(laws[random.nextInt(laws.length)]);
      int clover = new int[] {2, 62, 94}[random.nextInt(3)];
      int hay = pick(1, 30);
      for (int i = pick(2, 12); i > 0; i--) {
        int[] s = {pick(0, 9), pick(0, 9), pick(0, Math.max(1, colours - 2)), pick(0, hay), pick(clover, clover + 5), pick(0, 99)};
        due("stack" + Arrays.toString(s), votes.stack(s[0], s[1], s[2], s[3], s[4], s[5]), oracle.stack(s[0], s[1], s[2], s[3], s[4], s[5]));
      }
      for (int i = pick(1, 9); i > 0; i--) {
        cow();
        taste();
      }
      for (int round = 0; round < 8; round++) {
        for (int k = 0; k < 4; k++) {
          int n = pick(1, 6);
          for (int what = -1; what < 4; what++) {
            due("campaign(" + k + ", " + n + ", " + what + ")", votes.campaign(k, n, what), oracle.campaign(k, n, what));
          }
        }
        int s = someStack();
        int n = near(1, 12);
        int rise = near(1, 30);
        for (int what = 0; what < 2; what++) {
          due("burns(" + s + ", " + n + ", " + rise + ", " + what + ")", votes.burns(s, n, rise, what), oracle.burns(s, n, rise, what));
        }
        int k = pick(0, 3);
        due("campaign(" + k + ", " + n + ", 4)", votes.campaign(k, n, 4), oracle.campaign(k, n, 4));
        for (int i = 0; i < 4; i++) {
          look();
        }
        due("days(1)", votes.days(1), oracle.days(1));
      }
    }

    void feed(int a, int b, int c, int d, int e) {
      due("feed(" + a + ", " + b + ", " + c + ", " + d + ", " + e + ")", votes.feed(a, b, c, d, e), oracle.feed(a, b, c, d, e));
    }

    void feedLaw() {
      LawMaker maker = new LawMaker(random);
      feedText(random.nextInt(5) > 0 ? maker.makeUseful() : maker.make());
    }

    void feedText(String text) {
      for (int[] m : meals(text)) {
        feed(m[0], m[1], m[2], m[3], m[4]);
      }
      int n = random.nextInt(40) == 0 ? near(1, 200) : text.length();
      due("law(" + n + ") " + text, votes.law(n), oracle.law(n));
    }

    void stack() {
      int x = near(0, 9);
      int y = near(0, random.nextBoolean() ? 9 : 2);
      int k = near(0, colours);
      int hay = random.nextBoolean() ? near(0, 40) : near(0, 999);
      int v = random.nextInt(4) == 0 ? near(96, 99) : near(0, 12);
      int w = near(0, 99);
      due("stack(" + x + ", " + y + ", " + k + ", " + hay + ", " + v + ", " + w + ")",
          votes.stack(x, y, k, hay, v, w), oracle.stack(x, y, k, hay, v, w));
    }

    void cow() {
      int x = near(0, 9);
      int y = near(0, 9);
      boolean bull = random.nextInt(4) == 0;
      int u = near(1, 9);
      due("cow(" + x + ", " + y + ", " + bull + ", " + u + ")", votes.cow(x, y, bull, u), oracle.cow(x, y, bull, u));
    }

    void taste() {
      int c = near(0, Math.max(0, oracle.cows.size() - 1));
      int k = near(0, 4);
      int n = near(-9, 9);
      due("taste(" + c + ", " + k + ", " + n + ")", votes.taste(c, k, n) ? 1 : 0, oracle.taste(c, k, n) ? 1 : 0);
    }

    int someStack() {
      return near(0, Math.max(0, oracle.stacks.size() - 1));
    }

    int someCow() {
      return near(0, Math.max(0, oracle.cows.size() - 1));
    }

    void any() {
      switch (random.nextInt(34)) {
        case 0: if (random.nextInt(3) == 0) { stack(); } break;
        case 1: if (random.nextInt(3) == 0) { cow(); } break;
        case 2: taste(); break;
        case 3: {
          int s = random.nextInt(5) == 0 ? -1 : someStack();
          int day = random.nextInt(3) == 0 ? near(0, 999) : near(Math.max(0, oracle.day - 2), oracle.day + 6);
          due("salt(" + s + ", " + day + ")", votes.salt(s, day) ? 1 : 0, oracle.salt(s, day) ? 1 : 0);
          break;
        }
        case 4: feed(random.nextInt(), random.nextInt(), random.nextInt(), random.nextInt(), random.nextInt()); break;
        case 5: if (random.nextInt(2) == 0 && oracle.tape.isEmpty()) { feedLaw(); } break;
        case 6: { int n = random.nextInt(9) == 0 ? near(1, 20) : pick(1, 2); due("days(" + n + ")", votes.days(n), oracle.days(n)); break; }
        case 7: case 8: runs(); break;
        case 9: case 10: campaigns(); break;
        case 11: case 12: case 13: words(); break;
        case 14: if (random.nextInt(3) == 0) { int w = near(1, random.nextBoolean() ? 3 : 9); due("storm(" + w + ")", votes.storm(w), oracle.storm(w)); } break;
        case 15: { int x = near(0, 65535); due("seed(" + x + ")", votes.seed(x) ? 1 : 0, oracle.seed(x) ? 1 : 0); break; }
        case 16: { int n = random.nextInt(9) == 0 ? near(1, 20) : pick(1, 2); due("draw(" + n + ")", votes.draw(n), oracle.draw(n)); break; }
        case 17: if (random.nextInt(4) == 0) { due("keep()", votes.keep(), oracle.keep()); } break;
        case 18: case 21: if (random.nextInt(2) == 0) { due("undo()", votes.undo() ? 1 : 0, oracle.undo() ? 1 : 0); } break;
        case 19: case 20: checks(); break;
        default: look(); break;
      }
    }

    void runs() {
      int n = random.nextInt(2) == 0 ? near(1, 20) : pick(1, 3);
      int what = random.nextBoolean() ? near(0, 6) : near(10, 9 + Math.max(1, oracle.stacks.size()));
      due("run(" + n + ", " + what + ")", votes.run(n, what), oracle.run(n, what));
    }

    void campaigns() {
      int k = near(0, colours);
      int n = near(1, 6);
      int what = near(-1, 4);
      if (what == 4 && random.nextInt(3) != 0) {
        what = -1;
      }
      due("campaign(" + k + ", " + n + ", " + what + ")", votes.campaign(k, n, what), oracle.campaign(k, n, what));
    }

    /** Mostly words that are true for some salt, so that something fits. */
    void words() {
      int what = near(0, 2);
      if (random.nextInt(20) == 0) {
        int n = near(1, 30);
        due("salted(" + n + ", " + what + ")", votes.salted(n, what), oracle.salted(n, what));
        return;
      }
      while (!oracle.tape.isEmpty() && calls < 440) {
        oracle.tape.clear();
        votes.law(1);
      }
      int n = pick(1, random.nextBoolean() ? 3 : 30);
      Oracle guess = oracle.copy();
      List<Integer> standing = new ArrayList<>();
      for (int s = 0; s < guess.stacks.size(); s++) {
        if (guess.stacks.get(s).stands) {
          standing.add(s);
        }
      }
      guess.saltStack = standing.isEmpty() || random.nextInt(6) == 0 ? -1 : standing.get(random.nextInt(standing.size()));
      guess.saltDay = guess.saltStack < 0 ? -1 : guess.day + random.nextInt(10);
      int[][] ate = new int[10][];
      for (int d = 0; d < 10; d++) {
        guess.oneDay();
        ate[d] = guess.ate.clone();
      }
      int[] bytes = new int[220];
      for (int i = 0; i < n; i++) {
        int c = guess.cows.isEmpty() ? 0 : random.nextInt(guess.cows.size());
        int d = random.nextInt(10);
        int s = guess.cows.isEmpty() ? 0 : ate[d][c];
        if (random.nextInt(80) == 0) { s = random.nextInt(13) - 1; }
        if (random.nextInt(400) == 0) { c = random.nextInt(256); }
        if (random.nextInt(400) == 0) { d = random.nextInt(256); }
        bytes[3 * i] = c;
        bytes[3 * i + 1] = s < 0 ? 255 : s;
        bytes[3 * i + 2] = d;
      }
      feedBytes(bytes, 3 * n);
      due("salted(" + n + ", " + what + ")", votes.salted(n, what), oracle.salted(n, what));
    }

    void feedBytes(int[] bytes, int n) {
      for (int at = 0; at < n; at += 20) {
        int[] m = new int[5];
        for (int i = 0; i < 20; i++) {
          m[i / 4] = m[i / 4] << 8 | (at + i < bytes.length ? bytes[at + i] : 0);
        }
        feed(m[0], m[1], m[2], m[3], m[4]);
      }
    }

    void checks() {
      int s = someStack();
      int n = near(0, random.nextBoolean() ? 16 : Math.max(0, oracle.cows.size()));
      if (oracle.tape.isEmpty() && s >= 0 && s < oracle.stacks.size()) {
        int[] bytes = new int[100];
        for (int i = 0; i < 16; i++) {
          int hay = i < oracle.cows.size() ? oracle.stacks.get(s).eaten[i] : 0;
          if (random.nextInt(20) == 0) {
            hay += random.nextBoolean() ? 1 : 1 << 24;
          }
          bytes[4 * i] = hay >>> 24;
          bytes[4 * i + 1] = hay >>> 16 & 255;
          bytes[4 * i + 2] = hay >>> 8 & 255;
          bytes[4 * i + 3] = hay & 255;
        }
        feedBytes(bytes, 4 * Math.max(0, Math.min(n, 16)));
      }
      due("check(" + s + ", " + n + ")", votes.check(s, n), oracle.check(s, n));
    }

    void look() {
      int s = someStack();
      int c = someCow();
      int k = near(0, 4);
      switch (random.nextInt(13)) {
        case 0: due("would(" + c + ", " + s + ")", votes.would(c, s), oracle.would(c, s)); break;
        case 1: due("chooses(" + c + ")", votes.chooses(c), oracle.chooses(c)); break;
        case 2: { int w = near(0, 6); due("stackIs(" + s + ", " + w + ")", votes.stackIs(s, w), oracle.stackIs(s, w)); break; }
        case 3: { int w = random.nextBoolean() ? near(0, 3) : near(10, 14); due("cowIs(" + c + ", " + w + ")", votes.cowIs(c, w), oracle.cowIs(c, w)); break; }
        case 4: {
          int a = random.nextInt(3) == 0 ? -1 : s;
          int b = random.nextInt(3) == 0 ? -1 : c;
          due("eaten(" + a + ", " + b + ")", votes.eaten(a, b), oracle.eaten(a, b));
          break;
        }
        case 5: due("votes(" + k + ")", votes.votes(k), oracle.votes(k)); break;
        case 6: due("power(" + c + ")", votes.power(c), oracle.power(c)); break;
        case 7: { int w = near(0, 1); due("share(" + c + ", " + w + ")", votes.share(c, w), oracle.share(c, w)); break; }
        case 8: { int d = near(0, 3); due("seat(" + d + ")", votes.seat(d), oracle.seat(d)); break; }
        case 9: { int w = near(0, 2); due("cut(" + k + ", " + w + ")", votes.cut(k, w), oracle.cut(k, w)); break; }
        case 10: due("foreseen(" + c + ")", votes.foreseen(c), oracle.foreseen(c)); break;
        case 11: {
          int n = near(1, 12);
          int rise = near(1, 30);
          int w = near(0, 1);
          due("burns(" + s + ", " + n + ", " + rise + ", " + w + ")", votes.burns(s, n, rise, w), oracle.burns(s, n, rise, w));
          break;
        }
        default: { int w = near(0, 8); due("count(" + w + ")", votes.count(w), oracle.count(w)); break; }
      }
    }
  }

  /** Draws texts: mostly good laws, often with a fault put in. */
  private static final class LawMaker {
    final Random random;
    final StringBuilder out = new StringBuilder();

    LawMaker(Random random) {
      this.random = random;
    }

    /** A law by which cows do eat: short enough to be whole, and mostly with an e for all at its end. */
    String makeUseful() {
      out.setLength(0);
      String[] starts = {"n(s=1)", "n(s=1&d<9|h<3)", "n(d>9)", "n(k=2&u>5)", "n(!(x<200))", "n(h/[v-3]>9)"};
      String[] values = {"20+t*2+v-d", "10+v", "1+t", "v*9+t*5-d*3+40", "h%7+v+u", "[t+9]*[v+1]/[d+1]", "99-x/5+v-s*50", "300/v+b", "w*w*w*w*w+v"};
      String[] risings = {"w/4+h/10", "99", "w%9+s*20", "x/2+7", "h/[w%5]", "5*v", "t+d+b+u+3", "[w-50]*[w-20]"};
      if (random.nextInt(3) == 0) {
        out.append(starts[random.nextInt(starts.length)]).append(';');
      }
      for (int i = random.nextInt(3); i > 0; i--) {
        out.append("eeg".charAt(random.nextInt(3)));
        e(1);
        out.append('(');
        c(1);
        out.append(");");
      }
      if (random.nextInt(3) > 0) {
        out.append('g').append(risings[random.nextInt(risings.length)]).append(random.nextBoolean() ? "(1=1);" : "(h>0&k<4);");
      }
      out.append('e').append(values[random.nextInt(values.length)]).append(random.nextInt(4) > 0 ? "(1=1)" : "(h>2|t>0)");
      return out.length() <= 200 ? out.toString() : makeUseful();
    }

    String make() {
      int clauses = random.nextInt(12) == 0 ? 13 + random.nextInt(4) : 1 + random.nextInt(6);
      boolean tiny = clauses > 8;
      for (int i = 0; i < clauses; i++) {
        if (i > 0) {
          out.append(';');
        }
        int dice = random.nextInt(7);
        if (dice < 4) {
          out.append('e');
          e(tiny ? 0 : 2);
        } else if (dice < 6) {
          out.append('g');
          e(tiny ? 0 : 2);
        } else {
          out.append('n');
        }
        out.append('(');
        if (random.nextInt(3) == 0) {
          out.append("1=1");
        } else {
          c(tiny ? 0 : 3);
        }
        out.append(')');
      }
      if (random.nextInt(3) == 0) {
        spoil();
      }
      if (out.length() > 200) {
        out.setLength(200);
      }
      if (out.length() == 0) {
        out.append('n');
      }
      return out.toString();
    }

    void spoil() {
      String signs = "nehvwxkstdbug0123456789()[]!&|<>=+-*/%;; az" + (char) 200 + (char) 10;
      int at = random.nextInt(out.length());
      char sign = signs.charAt(random.nextInt(signs.length()));
      switch (random.nextInt(5)) {
        case 0: out.setLength(at); break;
        case 1: out.setCharAt(at, sign); break;
        case 2: out.insert(at, sign); break;
        case 3: out.deleteCharAt(at); break;
        default:
          for (int i = 1 + random.nextInt(8); i > 0; i--) {
            out.insert(at, "([!7".charAt(random.nextInt(4)));
          }
      }
    }

    void c(int depth) {
      for (int i = random.nextInt(depth > 0 ? 3 : 1); i >= 0; i--) {
        for (int j = random.nextInt(depth > 0 ? 3 : 1); j >= 0; j--) {
          piece(depth);
          if (j > 0) {
            out.append('&');
          }
        }
        if (i > 0) {
          out.append('|');
        }
      }
    }

    void piece(int depth) {
      int dice = random.nextInt(8);
      if (depth > 0 && dice == 0) {
        out.append('!');
        piece(depth - 1);
      } else if (depth > 0 && dice == 1) {
        out.append('(');
        c(depth - 1);
        out.append(')');
      } else {
        e(depth > 1 ? 1 : 0);
        out.append("<>=".charAt(random.nextInt(3)));
        e(0);
      }
    }

    void e(int depth) {
      for (int i = random.nextInt(depth > 0 ? 3 : 1); i >= 0; i--) {
        for (int j = random.nextInt(depth > 0 ? 3 : 1); j >= 0; j--) {
          factor(depth);
          if (j > 0) {
            out.append("***/%".charAt(random.nextInt(5)));
          }
        }
        if (i > 0) {
          out.append("++-".charAt(random.nextInt(3)));
        }
      }
    }

    void factor(int depth) {
      int dice = random.nextInt(10);
      if (depth > 0 && dice == 0) {
        out.append('[');
        e(depth - 1);
        out.append(']');
      } else if (dice < 3) {
        out.append(random.nextInt(random.nextInt(9) == 0 ? 100000 : 30));
      } else {
        out.append("hvwxksstdbuvtx".charAt(random.nextInt(14)));
      }
    }
  }

  /** Whether a text can be a law: a pile of open signs, and what may come next. */
  static final class LawCheck {
    static int answer(String text) {
      StringBuilder open = new StringBuilder();
      // what may come next: K a clause's letter, O its (, P a piece, F a factor, A what follows a
      // factor, D a digit or that, B what follows a piece, Z what follows a clause
      char next = 'K';
      int side = 0;
      int digits = 0;
      int clauses = 0;
      for (int at = 0; at <= text.length(); at++) {
        int sign = at < text.length() ? text.charAt(at) : -1;
        int fault = -1000 - at;
        if (next == 'D') {
          if (sign >= '0' && sign <= '9') {
            if (++digits == 6) {
              return -2000 - at;
            }
            continue;
          }
          next = 'A';
        }
        if (next == 'Z' && sign < 0) {
          return clauses;
        }
        if (sign < 0) {
          return fault;
        }
        boolean opens = next == 'P' && (sign == '(' || sign == '!') || (next == 'P' || next == 'F') && sign == '[';
        if (opens) {
          if (open.length() == 6) {
            return -5000 - at;
          }
          open.append((char) sign);
          if (sign == '[') {
            side = next == 'P' ? 1 : side;
            next = 'F';
          }
          continue;
        }
        char top = open.length() > 0 ? open.charAt(open.length() - 1) : ' ';
        if (next == 'Z' && sign == ';') {
          next = 'K';
        } else if (next == 'K' && "neg".indexOf(sign) >= 0) {
          if (++clauses == 15) {
            return -4000 - at;
          }
          next = sign == 'n' ? 'O' : 'F';
          side = 0;
        } else if (next == 'O' && sign == '(' || next == 'A' && side == 0 && top == ' ' && sign == '(') {
          open.append('(');
          next = 'P';
        } else if ((next == 'P' || next == 'F') && "hvwxkstdbu0123456789".indexOf(sign) >= 0) {
          side = next == 'P' ? 1 : side;
          next = sign <= '9' ? 'D' : 'A';
          digits = 1;
        } else if (next == 'A' && "+-*/%".indexOf(sign) >= 0) {
          next = 'F';
        } else if (next == 'A' && top == '[' && sign == ']') {
          open.setLength(open.length() - 1);
        } else if (next == 'A' && top != '[' && side == 1 && "<>=".indexOf(sign) >= 0) {
          side = 2;
          next = 'F';
        } else if ((next == 'A' && top != '[' && side == 2 || next == 'B') && "&|)".indexOf(sign) >= 0) {
          shut(open);
          next = 'P';
          if (sign == ')') {
            open.setLength(open.length() - 1);
            shut(open);
            next = open.length() == 0 ? 'Z' : 'B';
          }
        } else {
          return fault;
        }
      }
      throw new IllegalStateException("no end in " + text);
    }

    private static void shut(StringBuilder open) {
      while (open.length() > 0 && open.charAt(open.length() - 1) == '!') {
        open.setLength(open.length() - 1);
      }
    }
  }

  /** A good law as trees: what is bound least is split first. */
  static final class LawText {
    static final class Refused extends RuntimeException {
      private static final long serialVersionUID = 1;

      Refused() {
        super(null, null, false, false);
      }
    }

    interface Number {
      int of(int[] letters);
    }

    interface Truth {
      boolean of(int[] letters);
    }

    final List<String> clauses;
    final List<Number> values = new ArrayList<>();
    final List<Truth> conditions = new ArrayList<>();
    int[] letters;

    LawText(String text) {
      clauses = text.isEmpty() ? new ArrayList<>() : split(text, ";");
      for (String clause : clauses) {
        int at = conditionAt(clause);
        values.add(at > 1 ? value(clause.substring(1, at)) : null);
        conditions.add(condition(clause.substring(at + 1, clause.length() - 1)));
      }
    }

    /** The pieces between signs that are in no bracket; a sign to reckon with stays ahead of what follows. */
    static List<String> split(String text, String signs) {
      List<String> pieces = new ArrayList<>();
      int depth = 0;
      int from = 0;
      for (int i = 0; i < text.length(); i++) {
        char sign = text.charAt(i);
        depth += sign == '(' || sign == '[' ? 1 : sign == ')' || sign == ']' ? -1 : 0;
        if (depth == 0 && signs.indexOf(sign) >= 0) {
          pieces.add(text.substring(from, i));
          from = signs.length() == 1 ? i + 1 : i;
        }
      }
      pieces.add(text.substring(from));
      return pieces;
    }

    static int conditionAt(String clause) {
      int depth = 0;
      for (int i = 0; i < clause.length(); i++) {
        if (clause.charAt(i) == '(' && depth == 0) {
          return i;
        }
        depth += clause.charAt(i) == '[' ? 1 : clause.charAt(i) == ']' ? -1 : 0;
      }
      throw new IllegalStateException(clause);
    }

    static Truth condition(String text) {
      List<List<Truth>> parts = new ArrayList<>();
      for (String part : split(text, "|")) {
        List<Truth> pieces = new ArrayList<>();
        for (String piece : split(part, "&")) {
          pieces.add(piece(piece));
        }
        parts.add(pieces);
      }
      return letters -> {
        for (List<Truth> part : parts) {
          boolean all = true;
          for (int i = 0; i < part.size() && all; i++) {
            all = part.get(i).of(letters);
          }
          if (all) {
            return true;
          }
        }
        return false;
      };
    }

    static Truth piece(String text) {
      if (text.charAt(0) == '!') {
        Truth inner = piece(text.substring(1));
        return letters -> !inner.of(letters);
      }
      if (text.charAt(0) == '(') {
        return condition(text.substring(1, text.length() - 1));
      }
      List<String> sides = split(text, "<>=");
      Number left = value(sides.get(0));
      Number right = value(sides.get(1).substring(1));
      char sign = sides.get(1).charAt(0);
      return letters -> {
        int a = left.of(letters);
        int b = right.of(letters);
        return sign == '<' ? a < b : sign == '>' ? a > b : a == b;
      };
    }

    static Number value(String text) {
      Number sum = null;
      for (String part : split(text, "+-")) {
        Number left = sum;
        Number right = term(left == null ? part : part.substring(1));
        boolean minus = part.charAt(0) == '-';
        sum = left == null ? right : minus ? x -> left.of(x) - right.of(x) : x -> left.of(x) + right.of(x);
      }
      return sum;
    }

    static Number term(String text) {
      Number product = null;
      for (String part : split(text, "*/%")) {
        Number left = product;
        Number right = factor(left == null ? part : part.substring(1));
        char sign = part.charAt(0);
        product = left == null ? right : sign == '*' ? x -> left.of(x) * right.of(x) : x -> divided(left.of(x), right.of(x), sign);
      }
      return product;
    }

    static int divided(int a, int b, char sign) {
      if (b == 0) {
        throw new Refused();
      }
      return sign == '/' ? a / b : a % b;
    }

    static Number factor(String text) {
      if (text.charAt(0) == '[') {
        return value(text.substring(1, text.length() - 1));
      }
      int letter = "hvwxkstdbu".indexOf(text.charAt(0));
      int number = letter >= 0 ? 0 : Integer.parseInt(text);
      return letters -> letter >= 0 ? letters[letter] : number;
    }

    boolean holds(int clause) {
      try {
        return conditions.get(clause).of(letters);
      } catch (Refused e) {
        return false;
      }
    }

    boolean forbids() {
      boolean any = false;
      for (int i = 0; i < clauses.size(); i++) {
        any |= clauses.get(i).charAt(0) == 'n' && holds(i);
      }
      return any;
    }

    int first(char kind, int most) {
      for (int i = 0; i < clauses.size(); i++) {
        if (clauses.get(i).charAt(0) == kind && holds(i)) {
          try {
            int value = values.get(i).of(letters);
            return value < 0 ? 0 : value > most ? most : value;
          } catch (Refused e) {
            return 0;
          }
        }
      }
      return 0;
    }
  }

  static final class S {
    int x, y, colour, hay, clover, damp, heat;
    boolean stands = true;
    int[] eaten = new int[16];

    S copy() {
      S s = new S();
      s.x = x; s.y = y; s.colour = colour; s.hay = hay; s.clover = clover; s.damp = damp; s.heat = heat;
      s.stands = stands;
      s.eaten = eaten.clone();
      return s;
    }
  }

  static final class C {
    int x, y, votes, hunger, last = -2;
    int[] taste = new int[5];

    C copy() {
      C c = new C();
      c.x = x; c.y = y; c.votes = votes; c.hunger = hunger; c.last = last;
      c.taste = taste.clone();
      return c;
    }
  }

  static final class Oracle {
    List<S> stacks = new ArrayList<>();
    List<C> cows = new ArrayList<>();
    int[] counts = new int[5];
    int saltStack = -1, saltDay = -1, day = 0, x = 1, burnt = 0;
    int[] ate = new int[16];
    final List<Integer> tape = new ArrayList<>();
    LawText law = new LawText("");
    Oracle kept = null;

    /** What is KEPT, and the law to go on with. */
    Oracle copy() {
      Oracle o = new Oracle();
      for (S s : stacks) { o.stacks.add(s.copy()); }
      for (C c : cows) { o.cows.add(c.copy()); }
      o.counts = counts.clone();
      o.saltStack = saltStack; o.saltDay = saltDay; o.day = day; o.x = x;
      o.law = law;
      return o;
    }

    boolean in(int n, int least, int most) { return n >= least && n <= most; }
    boolean isStack(int s) { return in(s, 0, stacks.size() - 1); }
    boolean isCow(int c) { return in(c, 0, cows.size() - 1); }

    int stack(int sx, int sy, int colour, int hay, int clover, int damp) {
      if (!in(sx, 0, 9) || !in(sy, 0, 9) || !in(colour, 0, 4) || !in(hay, 0, 999) || !in(clover, 0, 99) || !in(damp, 0, 99) || stacks.size() == 12) { return -1; }
      for (S s : stacks) { if (s.stands && s.x == sx && s.y == sy) { return -2; } }
      S s = new S();
      s.x = sx; s.y = sy; s.colour = colour; s.hay = hay; s.clover = clover; s.damp = damp;
      stacks.add(s);
      return stacks.size() - 1;
    }

    int cow(int cx, int cy, boolean bull, int hunger) {
      if (!in(cx, 0, 9) || !in(cy, 0, 9) || !in(hunger, 1, 9) || cows.size() == 16) { return -1; }
      C c = new C();
      c.x = cx; c.y = cy; c.votes = bull ? 9 : 1; c.hunger = hunger;
      cows.add(c);
      return cows.size() - 1;
    }

    boolean taste(int c, int k, int n) {
      if (!isCow(c) || !in(k, 0, 4) || !in(n, -9, 9)) { return false; }
      cows.get(c).taste[k] = n;
      return true;
    }

    boolean salt(int s, int d) {
      if (s == -1) { saltStack = -1; saltDay = -1; return true; }
      if (!isStack(s) || !stacks.get(s).stands || !in(d, 0, 999)) { return false; }
      saltStack = s; saltDay = d;
      return true;
    }

    int feed(int... meal) {
      if (tape.size() + 20 > 220) { return -1; }
      for (int n : meal) { for (byte b : BigInteger.valueOf(n & 0xffffffffL | 1L << 32).toByteArray()) { tape.add(b & 255); } tape.remove(tape.size() - 5); }
      return tape.size();
    }

    int law(int n) {
      if (!in(n, 1, 200) || n > tape.size()) { return -1; }
      StringBuilder text = new StringBuilder();
      for (int i = 0; i < n; i++) { text.append((char) (int) tape.get(i)); }
      tape.clear();
      int answer = LawCheck.answer(text.toString());
      if (answer > 0) { law = new LawText(text.toString()); }
      return answer;
    }

    int[] lettersOf(int s) {
      S k = stacks.get(s);
      int salted = saltStack == s && day >= saltDay ? 1 : 0;
      return new int[] {k.hay, k.clover, k.damp, k.heat, k.colour, salted, 0, 0, 0, 0};
    }

    int eats(int c, int s) {
      S k = stacks.get(s);
      C cow = cows.get(c);
      int[] letters = lettersOf(s);
      letters[6] = cow.taste[k.colour];
      letters[7] = Math.abs(k.x - cow.x) + Math.abs(k.y - cow.y);
      letters[8] = cow.votes;
      letters[9] = cow.hunger;
      law.letters = letters;
      return law.forbids() ? 0 : law.first('e', 999);
    }

    int would(int c, int s) { return isCow(c) && isStack(s) && stacks.get(s).stands ? eats(c, s) : -1; }

    int chooses(int c) {
      if (!isCow(c)) { return -1; }
      int best = -1;
      int most = 0;
      for (int s = stacks.size() - 1; s >= 0; s--) {
        if (stacks.get(s).stands && stacks.get(s).hay > 0) {
          int amount = eats(c, s);
          if (amount > 0 && amount >= most) { most = amount; best = s; }
        }
      }
      return best;
    }

    int oneDay() {
      int eaten = 0;
      for (int c = 0; c < cows.size(); c++) {
        ate[c] = chooses(c);
        if (ate[c] >= 0) {
          S s = stacks.get(ate[c]);
          C cow = cows.get(c);
          int bite = s.hay < cow.hunger ? s.hay : cow.hunger;
          s.hay -= bite;
          s.eaten[c] += bite;
          eaten += bite;
          counts[s.colour] += cow.votes;
          cow.last = s.colour;
        }
      }
      for (int s = 0; s < stacks.size(); s++) {
        S k = stacks.get(s);
        if (!k.stands) { continue; }
        law.letters = lettersOf(s);
        k.heat += law.first('g', 99);
        if (k.heat >= 500) { k.stands = false; k.hay = 0; burnt++; }
      }
      day++;
      return eaten;
    }

    int days(int n) {
      if (!in(n, 1, 20)) { return -1; }
      int sum = 0;
      for (int i = 0; i < n; i++) { sum += oneDay(); }
      return sum;
    }

    int wins(int[] before) {
      for (int k = 0; k < 5; k++) {
        boolean most = true;
        for (int j = 0; j < 5; j++) { most &= j == k || counts[k] - before[k] > counts[j] - before[j]; }
        if (most) { return k; }
      }
      return -2;
    }

    int run(int n, int what) {
      if (!in(n, 1, 20) || !in(what, 0, 6) && !(what >= 10 && isStack(what - 10))) { return -1; }
      Oracle o = copy();
      o.days(n);
      return what < 5 ? o.counts[what] - counts[what] : what == 5 ? o.wins(counts) : what == 6 ? o.burnt : o.stacks.get(what - 10).hay;
    }

    int stackIs(int s, int what) {
      if (!isStack(s) || !in(what, 0, 6)) { return -1; }
      S k = stacks.get(s);
      return new int[] {10 * k.y + k.x, k.colour, k.hay, k.clover, k.damp, k.heat, k.stands ? 1 : 0}[what];
    }

    int cowIs(int c, int what) {
      if (!isCow(c) || !in(what, 0, 3) && !in(what, 10, 14)) { return -1000; }
      C k = cows.get(c);
      return what >= 10 ? k.taste[what - 10] : new int[] {10 * k.y + k.x, k.votes, k.hunger, k.last}[what];
    }

    int eaten(int s, int c) {
      if (s != -1 && !isStack(s) || c != -1 && !isCow(c)) { return -2; }
      int sum = 0;
      for (int i = 0; i < stacks.size(); i++) {
        for (int j = 0; j < cows.size(); j++) {
          if ((s == -1 || s == i) && (c == -1 || c == j)) { sum += stacks.get(i).eaten[j]; }
        }
      }
      return sum;
    }

    int votes(int k) { return in(k, 0, 4) ? counts[k] : -1; }

    int campaign(int k, int n, int what) {
      if (!in(k, 0, 4) || !in(n, 1, 6) || !in(what, -1, 4)) { return -3; }
      List<Integer> mine = new ArrayList<>();
      for (int s = 0; s < stacks.size(); s++) {
        if (stacks.get(s).stands && stacks.get(s).colour == k && mine.size() < 4) { mine.add(s); }
      }
      if (in(what, 0, 3) && what >= mine.size()) { return -3; }
      int[] best = null;
      int[] row = new int[mine.size()];
      int[] zero = new int[mine.size()];
      do {
        int pence = Arrays.stream(row).sum();
        if (best == null || pence < Arrays.stream(best).sum()) {
          Oracle o = copy();
          o.spread(mine, row);
          o.days(n);
          if (o.wins(counts) == k) { best = row.clone(); }
        }
        for (int i = row.length - 1; i >= 0; i--) {
          row[i] = (row[i] + 1) % 4;
          if (row[i] != 0) { break; }
        }
      } while (!Arrays.equals(row, zero));
      if (best == null) { return -2; }
      if (what == 4) { spread(mine, best); }
      return in(what, 0, 3) ? best[what] : Arrays.stream(best).sum();
    }

    void spread(List<Integer> mine, int[] row) {
      for (int i = 0; i < row.length; i++) {
        S s = stacks.get(mine.get(i));
        s.clover = Math.min(99, s.clover + row[i]);
      }
    }

    int swings(int cow, long[] bySize) {
      int all = 0;
      for (C c : cows) { all += c.votes; }
      int swings = 0;
      for (int set = 0; set < 1 << cows.size(); set++) {
        if ((set >> cow & 1) != 0) { continue; }
        int votes = 0;
        for (int c = 0; c < cows.size(); c++) { if ((set >> c & 1) != 0) { votes += cows.get(c).votes; } }
        if (2 * votes <= all && 2 * (votes + cows.get(cow).votes) > all) {
          swings++;
          bySize[Integer.bitCount(set)]++;
        }
      }
      return swings;
    }

    int power(int c) { return isCow(c) ? swings(c, new long[17]) : -1; }

    static BigInteger factorial(int n) { return n < 2 ? BigInteger.ONE : factorial(n - 1).multiply(BigInteger.valueOf(n)); }

    static long terms(BigInteger above, BigInteger below, int what) {
      BigInteger gcd = above.gcd(below);
      return (what == 0 ? above : below).divide(gcd).longValueExact();
    }

    long share(int c, int what) {
      if (!isCow(c) || !in(what, 0, 1)) { return -1; }
      long[] bySize = new long[17];
      swings(c, bySize);
      BigInteger above = BigInteger.ZERO;
      for (int n = 0; n < cows.size(); n++) {
        above = above.add(BigInteger.valueOf(bySize[n]).multiply(factorial(n)).multiply(factorial(cows.size() - 1 - n)));
      }
      return terms(above, factorial(cows.size()), what);
    }

    int seatAt(int district, int cx, int cy) {
      int[] sums = new int[5];
      for (C c : cows) {
        int d = 0;
        if (c.x >= cx) { d += 1; }
        if (c.y >= cy) { d += 2; }
        if (d == district && c.last >= 0) { sums[c.last] += c.votes; }
      }
      int most = Arrays.stream(sums).max().getAsInt();
      for (int k = 0; k < 5 && most > 0; k++) { if (sums[k] == most) { return k; } }
      return -2;
    }

    int seat(int d) { return in(d, 0, 3) ? seatAt(d, 5, 5) : -1; }

    int cut(int k, int what) {
      if (!in(k, 0, 4) || !in(what, 0, 2)) { return -1; }
      int[] best = {-1, 0, 0};
      for (int cx = 9; cx >= 1; cx--) {
        for (int cy = 9; cy >= 1; cy--) {
          int seats = 0;
          for (int d = 0; d < 4; d++) { if (seatAt(d, cx, cy) == k) { seats++; } }
          if (seats >= best[0]) { best = new int[] {seats, cx, cy}; }
        }
      }
      return best[what];
    }

    int foreseen(int cow) {
      if (!isCow(cow)) { return -1; }
      int vote = -2;
      int least = Integer.MAX_VALUE;
      for (int o = cows.size() - 1; o >= 0; o--) {
        int sum = 0;
        for (int k = 0; k < 5; k++) { sum += Math.abs(cows.get(o).taste[k] - cows.get(cow).taste[k]); }
        if (o != cow && cows.get(o).last >= 0 && sum <= least) { least = sum; vote = cows.get(o).last; }
      }
      return vote;
    }

    long burns(int s, int n, int k, int what) {
      if (!isStack(s) || !stacks.get(s).stands || !in(n, 1, 12) || !in(k, 1, 30) || !in(what, 0, 1)) { return -1; }
      BigInteger[] byHeat = new BigInteger[501];
      Arrays.fill(byHeat, BigInteger.ZERO);
      byHeat[stacks.get(s).heat] = BigInteger.ONE;
      for (int d = 0; d < n; d++) {
        BigInteger[] after = new BigInteger[501];
        Arrays.fill(after, BigInteger.ZERO);
        for (int heat = 0; heat <= 500; heat++) {
          for (int rise = 0; rise <= k; rise++) {
            int to = Math.min(500, heat + rise);
            after[to] = after[to].add(byHeat[heat]);
          }
        }
        byHeat = after;
      }
      return terms(byHeat[500], BigInteger.valueOf(k + 1).pow(n), what);
    }

    int salted(int n, int what) {
      if (!in(n, 1, 30) || !in(what, 0, 2) || 3 * n > tape.size()) { return -3; }
      int[][] words = new int[n][3];
      boolean told = true;
      for (int i = 0; i < n; i++) {
        for (int j = 0; j < 3; j++) { words[i][j] = tape.get(3 * i + j); }
        told &= isCow(words[i][0]) && (words[i][1] == 255 || isStack(words[i][1])) && words[i][2] <= 9;
      }
      tape.clear();
      if (!told) { return -2; }
      int[] answer = {0, 13, 13};
      for (int guess = 0; guess <= 10 * stacks.size(); guess++) {
        boolean none = guess == 10 * stacks.size();
        if (!none && !stacks.get(guess / 10).stands) { continue; }
        Oracle o = copy();
        o.saltStack = none ? -1 : guess / 10;
        o.saltDay = none ? -1 : day + guess % 10;
        boolean fits = true;
        for (int d = 0; d < 10; d++) {
          o.oneDay();
          for (int[] word : words) { fits &= word[2] != d || o.ate[word[0]] == (word[1] == 255 ? -1 : word[1]); }
        }
        if (fits && ++answer[0] == 1) {
          answer[1] = none ? 12 : guess / 10;
          answer[2] = none ? 12 : guess % 10;
        }
      }
      return answer[what];
    }

    int storm(int way) {
      if (!in(way, 1, 9)) { return -1; }
      int joins = 0;
      boolean again = true;
      while (again) {
        again = false;
        for (int i = 0; i < stacks.size() && !again; i++) {
          for (int j = 0; j < stacks.size() && !again; j++) {
            S a = stacks.get(i);
            S b = stacks.get(j);
            if (i != j && a.stands && b.stands && a.colour == b.colour && Math.abs(a.x - b.x) + Math.abs(a.y - b.y) <= way) {
              again = true;
              joins++;
              S low = i < j ? a : b;
              S high = i < j ? b : a;
              low.hay += high.hay;
              low.clover = Math.min(99, low.clover + high.clover);
              low.damp = Math.max(low.damp, high.damp);
              low.heat = Math.max(low.heat, high.heat);
              high.hay = 0;
              high.stands = false;
            }
          }
        }
      }
      return joins;
    }

    boolean seed(int n) {
      if (!in(n, 0, 65535)) { return false; }
      x = n;
      return true;
    }

    int draw(int n) {
      if (!in(n, 1, 20)) { return -1; }
      int sum = 0;
      int[] dx = {0, 1, 0, -1};
      int[] dy = {1, 0, -1, 0};
      for (int i = 0; i < n; i++) {
        x = (int) ((25173L * x + 13849) % 65536);
        if (isCow(x % 16)) {
          C c = cows.get(x % 16);
          int nx = c.x + dx[x / 16 % 4];
          int ny = c.y + dy[x / 16 % 4];
          if (in(nx, 0, 9) && in(ny, 0, 9)) { c.x = nx; c.y = ny; }
        }
        sum += oneDay();
      }
      return sum;
    }

    int keep() {
      kept = copy();
      return count(6);
    }

    boolean undo() {
      if (kept == null) { return false; }
      Oracle o = kept.copy();
      stacks = o.stacks; cows = o.cows; counts = o.counts; saltStack = o.saltStack; saltDay = o.saltDay; day = o.day; x = o.x;
      return true;
    }

    int check(int s, int n) {
      if (!isStack(s) || !in(n, 0, 16) || 4 * n > tape.size()) { return -2; }
      int answer = -1;
      for (int i = n - 1; i >= 0; i--) {
        int told = tape.get(4 * i) << 24 | tape.get(4 * i + 1) << 16 | tape.get(4 * i + 2) << 8 | tape.get(4 * i + 3);
        if (i >= cows.size() || told != stacks.get(s).eaten[i]) { answer = i; }
      }
      tape.clear();
      return answer;
    }

    int count(int what) {
      int standing = 0;
      for (S s : stacks) { standing += s.stands ? 1 : 0; }
      return in(what, 0, 8) ? new int[] {day, stacks.size(), cows.size(), law.clauses.size(), tape.size(), x, standing, saltStack, saltDay}[what] : -1;
    }
  }
}
