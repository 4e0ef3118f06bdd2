import java.lang.management.ManagementFactory;
import java.lang.reflect.Field;
import java.lang.reflect.Method;
import java.lang.reflect.Modifier;
import java.nio.file.Files;
import java.nio.file.Path;
import java.util.ArrayList;
import java.util.List;
import java.util.Set;
import java.util.TreeSet;
import java.util.regex.Matcher;
import java.util.regex.Pattern;

/** Whether HayVotes.java keeps to the rules of LANGUAGE.md that a program can see, and makes no objects in calls. */
public final class LanguageTest {
  private static final String[] FACE = {
      "int stack(int,int,int,int,int,int)", "int cow(int,int,boolean,int)", "boolean taste(int,int,int)", "boolean salt(int,int)",
      "int feed(int,int,int,int,int)", "int law(int)", "int would(int,int)", "int chooses(int)", "int days(int)", "int run(int,int)",
      "int stackIs(int,int)", "int cowIs(int,int)", "int eaten(int,int)", "int votes(int)", "int campaign(int,int,int)", "int power(int)",
      "long share(int,int)", "int seat(int)", "int cut(int,int)", "int foreseen(int)", "long burns(int,int,int,int)", "int salted(int,int)",
      "int storm(int)", "boolean seed(int)", "int draw(int)", "int keep()", "boolean undo()", "int check(int,int)", "int count(int)"};

  private static int wrong = 0;

  private static void must(boolean right, String what) {
    if (!right) {
      wrong++;
      System.out.println(what);
    }
  }

  public static void main(String[] args) throws Exception {
    face();
    classes();
    String source = Files.readString(Path.of(System.getProperty("hayvotes.source", "src/main/java/HayVotes.java")));
    words(withoutTexts(source));
    lengths(withoutTexts(source));
    memory();
    System.out.println(wrong == 0 ? "all rules that were looked at are kept" : wrong + " rules are not kept");
    if (wrong != 0) {
      System.exit(1);
    }
  }

  private static void face() {
    must(Modifier.isPublic(HayVotes.class.getModifiers()) && Modifier.isFinal(HayVotes.class.getModifiers()), "the class is public and final");
    must(HayVotes.class.getDeclaredConstructors().length == 1 && HayVotes.class.getConstructors().length == 1, "one public constructor");
    Set<String> found = new TreeSet<>();
    for (Method m : HayVotes.class.getDeclaredMethods()) {
      if (!Modifier.isPrivate(m.getModifiers())) {
        StringBuilder types = new StringBuilder();
        for (Class<?> type : m.getParameterTypes()) {
          types.append(types.length() > 0 ? "," : "").append(type.getSimpleName());
        }
        must(Modifier.isPublic(m.getModifiers()) && !Modifier.isStatic(m.getModifiers()), m.getName() + " is public and of an object");
        found.add(m.getReturnType().getSimpleName() + " " + m.getName() + "(" + types + ")");
      }
    }
    must(found.equals(new TreeSet<>(List.of(FACE))), "the methods of the face: " + found);
    for (Field f : HayVotes.class.getDeclaredFields()) {
      must(Modifier.isPrivate(f.getModifiers()) || f.getName().equals("NONE"), "the field " + f.getName() + " is private");
    }
  }

  private static void classes() {
    List<Class<?>> all = new ArrayList<>(List.of(HayVotes.class.getDeclaredClasses()));
    all.add(HayVotes.class);
    must(all.size() <= 13, "at most some twelve classes");
    Set<String> names = new TreeSet<>();
    for (Method m : HayVotes.class.getMethods()) {
      names.add(m.getName());
    }
    for (Class<?> c : all) {
      must(c == HayVotes.class || Modifier.isStatic(c.getModifiers()) && !Modifier.isPublic(c.getModifiers()), c + " is static and not public");
      int fields = 0;
      for (Field f : c.getDeclaredFields()) {
        fields += Modifier.isStatic(f.getModifiers()) ? 0 : 1;
        must(!Modifier.isStatic(f.getModifiers()) || Modifier.isFinal(f.getModifiers()), "the static field " + f + " is final");
      }
      must(fields <= 20, c + " has at most twenty fields");
      for (Method m : c.getDeclaredMethods()) {
        must(m.getParameterCount() <= 7, m + " has at most seven parameters");
        must(c == HayVotes.class && Modifier.isPublic(m.getModifiers()) || !names.contains(m.getName()), m + " has a name of its own");
      }
    }
  }

  /** Comments are dropped; of texts and signs only the quotes stay. */
  private static String withoutTexts(String source) {
    String plain = source.replaceAll("(?s)/\\*.*?\\*/", "").replaceAll("//[^\n]*", "");
    return plain.replaceAll("\"[^\"\n]*\"", "\"\"").replaceAll("'[^'\n]*'", "''");
  }

  private static void words(String source) {
    String[] banned = {"\\bthrow\\b", "\\bthrows\\b", "\\btry\\b", "\\bcatch\\b", "\\bsynchronized\\b", "\\bassert\\b", "->", "::", "\\bimport\\b",
        "\\bpackage\\b", "\\bprotected\\b", "Exact\\b", "\\bRandom\\b", "\\bThread\\b", "\\bObject\\b", "static\\s*\\{", "@",
        "System\\.(?!arraycopy)", "\\bhashCode\\b", "\\btoString\\b", "\\bvolatile\\b", "\\bnative\\b"};
    for (String word : banned) {
      Matcher m = Pattern.compile(word).matcher(source);
      must(!m.find(), "the source has " + word);
    }
  }

  private static void lengths(String source) {
    String[] lines = source.split("\n");
    int start = 0;
    String indent = "";
    for (int i = 0; i < lines.length; i++) {
      if (lines[i].matches(" {4}(    )?[a-zA-Z].*\\) \\{") && !lines[i].contains(" class ")) {
        start = i;
        indent = lines[i].replaceAll("[^ ].*", "");
      }
      if (start > 0 && lines[i].equals(indent + "}")) {
        must(i - start < 60, "a method of more than sixty lines: " + lines[start].trim());
        start = 0;
      }
      must(lines[i].length() <= 140, "a long line: " + lines[i].trim());
    }
  }

  /** All that a run makes stays in one room, so calls use again what the constructor made. */
  private static void memory() {
    com.sun.management.ThreadMXBean bean = (com.sun.management.ThreadMXBean) ManagementFactory.getThreadMXBean();
    long id = Thread.currentThread().getId();
    HayVotes v = new HayVotes();
    allCalls(v);
    long before = bean.getThreadAllocatedBytes(id);
    for (int i = 0; i < 10; i++) {
      allCalls(v);
    }
    long bytes = bean.getThreadAllocatedBytes(id) - before;
    must(bytes < 4000, "calls make objects: " + bytes + " bytes");
    before = bean.getThreadAllocatedBytes(id);
    new HayVotes();
    bytes = bean.getThreadAllocatedBytes(id) - before;
    must(bytes < 60000, "a new object is large: " + bytes + " bytes");
  }

  private static void allCalls(HayVotes v) {
    v.feed(1697722411, 1982345533, 824778784, 538976288, 538976288);
    v.law(10);
    v.stack(1, 2, 3, 50, 5, 6);
    v.cow(1, 2, false, 3);
    v.taste(0, 1, 2);
    v.salt(0, 1);
    v.would(0, 0);
    v.chooses(0);
    v.days(1);
    v.run(3, 5);
    v.stackIs(0, 1);
    v.cowIs(0, 1);
    v.eaten(-1, -1);
    v.votes(1);
    v.campaign(3, 2, 4);
    v.power(0);
    v.share(0, 0);
    v.seat(0);
    v.cut(3, 0);
    v.foreseen(0);
    v.burns(0, 12, 30, 0);
    v.feed(0, 0, 0, 0, 0);
    v.salted(1, 0);
    v.storm(1);
    v.seed(5);
    v.draw(1);
    v.keep();
    v.undo();
    v.check(0, 0);
    v.count(0);
  }
}
