import java.util.ArrayList;
import java.util.Arrays;
import java.util.Comparator;
import java.util.HashMap;
import java.util.List;
import java.util.Map;
import java.util.TreeMap;

/**
 * Long runs of calls, each answered by GrooveTurns and by a second telling of the document that is
 * written in another way: states that are never changed but copied, and texts read by patterns.
 */
public final class AgainstModel {
  /** A generator of numbers that are the same each time. */
  private static final class Dice {
    private long seed;
    Dice(long seed) { this.seed = seed * 7919 + 17; }
    int below(int bound) {
      seed = seed * 6364136223846793005L + 1442695040888963407L;
      return (int) ((seed >>> 33) % bound);
    }
    boolean once(int in) { return below(in) == 0; }
    int of(int... choices) { return choices[below(choices.length)]; }
  }

  /** A sector that was written at least once. */
  private record Cell(int number, int blur, int times) { }

  private static final class State {
    int[] settings = {4, 1, 30, 20, 2};
    Map<Integer, Cell> cells = new TreeMap<>();
    Map<Integer, Integer> spares = new HashMap<>();
    int spareCount = 0, ticks = 0, head = 0, reads = 0;

    State copy() {
      State s = new State();
      s.settings = settings.clone();
      s.cells = new TreeMap<>(cells);
      s.spares = new HashMap<>(spares);
      s.spareCount = spareCount;
      s.ticks = ticks;
      s.head = head;
      s.reads = reads;
      return s;
    }

    int place(int address) {
      return spares.containsKey(address) ? 192 + spares.get(address) : address;
    }

    Cell cell(int place) {
      return cells.getOrDefault(place, new Cell(-6, 0, 0));
    }

    boolean readable(int address) {
      Cell c = cell(place(address));
      return c.number != -6 && c.blur < settings[2];
    }

    int way(int place) {
      int t = ticks;
      for (int track = head; track != place / 12; track += track < place / 12 ? 1 : -1) t += settings[4];
      while (t % 12 != place % 12) t++;
      return t + 1 - ticks;
    }

    int writePlace(int address) {
      return cell(place(address)).times >= settings[3] && spareCount < 12 ? 192 + spareCount : place(address);
    }

    int write(int address, int number) {
      int target = writePlace(address);
      int way = way(target);
      if (target != place(address)) spares.put(address, spareCount++);
      cells.put(target, new Cell(number, 0, cell(target).times + 1));
      if (target < 192) {
        for (int other = 0; other < 192; other++) {
          int apart = Math.abs(other / 12 - target / 12);
          if (other % 12 != target % 12 || apart < 1 || apart > 2) continue;
          if (spares.containsKey(other) || !cells.containsKey(other)) continue;
          Cell c = cells.get(other);
          cells.put(other, new Cell(c.number, Math.min(99, c.blur + settings[apart - 1]), c.times));
        }
      }
      ticks += way;
      head = target / 12;
      return way;
    }

    int read(int address) {
      if (!readable(address)) return -5;
      ticks += way(place(address));
      head = place(address) / 12;
      reads++;
      return cell(place(address)).number;
    }

    int filled() {
      int n = 0;
      for (int a = 0; a < 192; a++) if (cell(place(a)).number != -6) n++;
      return n;
    }
  }

  private static final class Model {
    State now = new State();
    String pad = "";
    final List<State> history = new ArrayList<>();
    final State[] slots = new State[2];

    void note(State before) {
      history.add(before);
      if (history.size() > 6) history.remove(0);
    }

    int set(int setting, int value) {
      int[][] ranges = {{0, 20}, {0, 20}, {5, 99}, {1, 99}, {0, 20}};
      if (setting < 0 || setting > 4 || value < ranges[setting][0] || value > ranges[setting][1]) return -2;
      note(now.copy());
      int before = now.settings[setting];
      now.settings[setting] = value;
      return before;
    }

    int write(int address, int number) {
      if (address < 0 || address > 191) return -1;
      if (number < 0 || number > 255) return -2;
      note(now.copy());
      return now.write(address, number);
    }

    int read(int address) {
      if (address < 0 || address > 191) return -1;
      if (!now.readable(address)) return -5;
      note(now.copy());
      return now.read(address);
    }

    int refresh(int address) {
      if (address < 0 || address > 191) return -1;
      if (!now.readable(address)) return -5;
      note(now.copy());
      int blur = now.cell(now.place(address)).blur;
      now.write(address, now.read(address));
      return blur;
    }

    int seek(int track) {
      if (track < 0 || track > 16) return -1;
      note(now.copy());
      int way = Math.abs(track - now.head) * now.settings[4];
      now.ticks += way;
      now.head = track;
      return way;
    }

    int idle(int ticks) {
      if (ticks < 1 || ticks > 9999) return -2;
      note(now.copy());
      now.ticks += ticks;
      return now.ticks % 12;
    }

    int run(boolean isByTracks) {
      if (fault() != -6) return -3;
      note(now.copy());
      int done = requests(now, isByTracks);
      pad = "";
      return done;
    }

    int requests(State s, boolean isByTracks) {
      List<String> all = new ArrayList<>(Arrays.asList(pad.split(";")));
      if (isByTracks) {
        Map<Integer, Integer> spares = new HashMap<>(s.spares);
        all.sort(Comparator.comparingInt(r -> spares.containsKey(address(r)) ? 16 : address(r) / 12));
      }
      int done = 0;
      for (String r : all) {
        int answer = r.charAt(0) == 'r' ? s.read(address(r))
            : s.write(address(r), Integer.parseInt(r.substring(r.indexOf('=') + 1)));
        if (answer >= 0) done++;
      }
      return done;
    }

    private static int address(String request) {
      return Integer.parseInt(request.substring(1).split("=")[0]);
    }

    private static final String ADDRESS = "(0|[1-9]|[1-9][0-9]|1[0-8][0-9]|19[01])";
    private static final String NUMBER = "(0|[1-9]|[1-9][0-9]|1[0-9][0-9]|2[0-4][0-9]|25[0-5])";
    private static final String REQUEST = "(w" + ADDRESS + "=" + NUMBER + "|r" + ADDRESS + ")";
    private static final String TEXT = REQUEST + "(;" + REQUEST + ")*";
    private static final java.util.regex.Pattern PATTERN = java.util.regex.Pattern.compile(TEXT);

    /** What stands up to a character is right, if some text that is right begins so. */
    private static boolean begins(String text) {
      for (String end : new String[] {"", "0", "0=0", "=0", "r0"}) {
        if (PATTERN.matcher(text + end).matches()) return true;
      }
      return false;
    }

    int fault() {
      for (int i = 0; i < pad.length(); i++) if (!begins(pad.substring(0, i + 1))) return i;
      return PATTERN.matcher(pad).matches() ? -6 : pad.length();
    }

    int sector(int address, int what) {
      if (address < 0 || address > 191) return -1;
      int place = now.place(address);
      Cell c = now.cell(place);
      int[] all = {place / 12, place % 12, c.number, c.blur, c.times, place >= 192 ? 1 : 0, now.readable(address) ? 1 : 0};
      return what < 0 || what > 6 ? -2 : all[what];
    }

    int track(int track, int what) {
      if (track < 0 || track > 16) return -1;
      if (what < 0 || what > 3) return -2;
      int[] all = new int[4];
      for (int a = 0; a < 192; a++) {
        if (now.place(a) / 12 != track || now.cell(now.place(a)).number == -6) continue;
        all[0]++;
        if (!now.readable(a)) all[1]++;
      }
      for (int p = track * 12; p < track * 12 + 12; p++) {
        all[2] += now.cell(p).blur;
        all[3] += now.cell(p).times;
      }
      return all[what];
    }

    int count(int what) {
      if (what < 0 || what > 17) return -2;
      if (what < 5) return now.settings[what];
      int lost = 0, greatest = 0, all = 0, land = 0, groove = 0;
      for (int a = 0; a < 192; a++) {
        if (now.cell(now.place(a)).number != -6 && !now.readable(a)) lost++;
        greatest = Math.max(greatest, now.cell(now.place(a)).blur);
      }
      for (Map.Entry<Integer, Cell> e : now.cells.entrySet()) {
        int times = e.getValue().times;
        all += times;
        if (e.getKey() < 192 && e.getKey() / 12 % 2 == 0) land += times;
        if (e.getKey() < 192 && e.getKey() / 12 % 2 == 1) groove += times;
      }
      int[] answers = {now.ticks, now.head, now.ticks % 12, 12 - now.spareCount, now.filled(), lost, all, now.reads,
          land, groove, greatest, pad.length(), history.size()};
      return answers[what - 5];
    }

    int ticksFor(int address, boolean isWriting) {
      if (address < 0 || address > 191) return -1;
      return now.way(isWriting ? now.writePlace(address) : now.place(address));
    }

    int ifRun(boolean isByTracks) {
      if (fault() != -6) return -3;
      State s = now.copy();
      requests(s, isByTracks);
      return s.ticks - now.ticks;
    }

    int untilLost(int address, int other) {
      if (address < 0 || address > 191 || other < 0 || other > 191) return -1;
      if (address == other) return -2;
      if (!now.readable(other)) return -5;
      State s = now.copy();
      for (int n = 1; n <= 500; n++) {
        s.write(address, 0);
        if (!s.readable(other)) return n;
      }
      return -6;
    }

    int worst() {
      int found = -6;
      for (int a = 191; a >= 0; a--) {
        if (now.readable(a) && (found == -6 || now.cell(now.place(a)).blur >= now.cell(now.place(found)).blur)) found = a;
      }
      return found;
    }

    int put(long characters) {
      StringBuilder text = new StringBuilder();
      String bits = String.format("%64s", Long.toBinaryString(characters)).replace(' ', '0');
      for (int i = 0; i < 64; i += 8) {
        int code = Integer.parseInt(bits.substring(i, i + 8), 2);
        if (code == 0 && text.length() == 0) continue;
        if (code < 33 || code > 126) return -2;
        text.append((char) code);
      }
      if (text.length() == 0) return -2;
      if (pad.length() + text.length() > 60) return -4;
      pad += text;
      return pad.length();
    }

    int wipe() {
      int length = pad.length();
      pad = "";
      return length;
    }

    int undo() {
      if (history.isEmpty()) return -5;
      now = history.remove(history.size() - 1);
      return history.size();
    }

    int save(int slot) {
      if (slot < 0 || slot > 1) return -2;
      slots[slot] = now.copy();
      return now.filled();
    }

    int restore(int slot) {
      if (slot < 0 || slot > 1) return -2;
      if (slots[slot] == null) return -5;
      note(now);
      now = slots[slot].copy();
      return now.filled();
    }
  }

  // An object is promised for 512 calls; the longest text takes some thirty.
  private static final int MOST = 480;
  private static final int[] ODD = {-1, -6, 192, 256, 17, 1000, Integer.MIN_VALUE, Integer.MAX_VALUE};

  private final Dice dice;
  private final Due due;
  private final Run x;
  private final Model m = new Model();
  private final String run;
  // Few sectors of few tracks, so that much lies beside each other.
  private final int firstTrack, tracks, sectors;

  private AgainstModel(Due due, int seed) {
    this.due = due;
    this.x = due.fresh();
    this.dice = new Dice(seed);
    this.run = "run " + seed + ": ";
    tracks = 1 + dice.below(6);
    firstTrack = dice.below(17 - tracks);
    sectors = 1 + dice.below(3);
  }

  public static void main(String[] args) {
    Due due = new Due();
    int[] calls = {60, 300, 300, MOST};
    for (int seed = 0; seed < 600; seed++) new AgainstModel(due, seed).calls(calls[seed % calls.length]);
    if (!due.isRight()) System.exit(1);
  }

  private int address() {
    if (dice.once(60)) return dice.of(ODD);
    if (dice.once(20)) return dice.below(192);
    return (firstTrack + dice.below(tracks)) * 12 + dice.below(sectors) * 5 % 12;
  }

  private int small(int bound) {
    return dice.once(40) ? dice.of(ODD) : dice.below(bound);
  }

  private void is(String call, long got, long want) {
    due.is(run + call, got, want);
  }

  private void calls(int count) {
    int wear = dice.of(1, 2, 5, 20);
    is("set(3, ..)", x.set(3, wear), m.set(3, wear));
    while (x.made() < count) {
      int kind = dice.below(24);
      if (kind < 12) change(kind); else if (kind < 20) look(kind - 12); else if (kind < 22) text(); else keep();
    }
    if (count < MOST) everything();
  }

  private void change(int kind) {
    int a = address();
    int n = small(256);
    boolean b = dice.once(2);
    switch (kind) {
      case 0: int s = small(5); int v = small(s == 2 ? 100 : 22);
        is("set(" + s + ", " + v + ")", x.set(s, v), m.set(s, v)); break;
      case 1: case 2: case 3: case 4: case 5:
        is("write(" + a + ", " + n + ")", x.write(a, n), m.write(a, n)); break;
      case 6: case 7: is("read(" + a + ")", x.read(a), m.read(a)); break;
      case 8: case 9: is("refresh(" + a + ")", x.refresh(a), m.refresh(a)); break;
      case 10:
        if (b) { int t = small(17); is("seek(" + t + ")", x.seek(t), m.seek(t)); }
        else { int t = small(30); is("idle(" + t + ")", x.idle(t), m.idle(t)); }
        break;
      default:
        is("ifRun(" + b + ")", x.ifRun(b), m.ifRun(b));
        is("run(" + b + ")", x.run(b), m.run(b));
    }
  }

  private void look(int kind) {
    int a = address();
    int what = small(7);
    boolean b = dice.once(2);
    switch (kind) {
      case 0: is("sector(" + a + ", " + what + ")", x.sector(a, what), m.sector(a, what)); break;
      case 1: int t = small(17); int w = small(5); is("track(" + t + ", " + w + ")", x.track(t, w), m.track(t, w)); break;
      case 2: case 3: int c = small(19); is("count(" + c + ")", x.count(c), m.count(c)); break;
      case 4: is("ticksFor(" + a + ", " + b + ")", x.ticksFor(a, b), m.ticksFor(a, b)); break;
      case 5: is("ifRun(" + b + ")", x.ifRun(b), m.ifRun(b)); break;
      case 6: int other = address();
        is("untilLost(" + a + ", " + other + ")", x.untilLost(a, other), m.untilLost(a, other)); break;
      default: is("worst()", x.worst(), m.worst());
    }
  }

  private void text() {
    if (dice.once(6)) is("wipe()", x.wipe(), m.wipe());
    if (dice.once(8)) {
      long odd = dice.of(0, 1, 32, 33, 126, 127, 255, 59) | (long) dice.of(0, 0, 33, 119) << dice.of(8, 16, 32, 56);
      is("put(" + odd + ")", x.put(odd), m.put(odd));
    }
    StringBuilder text = new StringBuilder(m.pad.isEmpty() ? "" : ";");
    for (int i = dice.below(8); i >= 0; i--) {
      text.append(dice.once(2) ? "r" + address() : "w" + address() + "=" + small(256)).append(i > 0 ? ";" : "");
    }
    if (dice.once(5)) text.setCharAt(dice.below(text.length()), "wr=;0129x".charAt(dice.below(9)));
    for (int from = 0; from < text.length(); from += 8) {
      long packed = Run.packed(text.substring(from, Math.min(text.length(), from + 8)));
      is("put(" + packed + ")", x.put(packed), m.put(packed));
    }
    is("fault() of " + m.pad, x.fault(), m.fault());
    if (m.fault() != -6 && !dice.once(4)) is("wipe()", x.wipe(), m.wipe());
  }

  private void keep() {
    int slot = small(2);
    switch (dice.below(5)) {
      case 0: is("save(" + slot + ")", x.save(slot), m.save(slot)); break;
      case 1: is("restore(" + slot + ")", x.restore(slot), m.restore(slot)); break;
      default: for (int i = dice.below(8); i >= 0; i--) is("undo()", x.undo(), m.undo());
    }
  }

  private void everything() {
    for (int what = 0; what < 18; what++) {
      int w = what;
      is("count(" + w + ")", x.probe(o -> o.count(w)), m.count(w));
    }
    for (int ask = 0; ask < 17 * 4; ask++) {
      int track = ask / 4, w = ask % 4;
      is("track(" + track + ", " + w + ")", x.probe(o -> o.track(track, w)), m.track(track, w));
    }
    for (int ask = 0; ask < 192 * 7; ask++) {
      int a = ask / 7, w = ask % 7;
      is("sector(" + a + ", " + w + ")", x.probe(o -> o.sector(a, w)), m.sector(a, w));
    }
  }
}
