import java.util.ArrayList;
import java.util.List;

/**
 * An object under test. It keeps the calls that were made on it, so that others can be brought to where it stands:
 * an object is promised for 512 calls, and looking at all of it takes more.
 */
final class Run implements Codes {
  interface Call {
    long on(GrooveTurns x);
  }

  private static final int MOST_CALLS = 512;

  private final Due due;
  private final GrooveTurns object = new GrooveTurns();
  private final List<Call> calls = new ArrayList<>();
  // Another object, brought to where this one stands, and the calls made on it since.
  private GrooveTurns probe = null;
  private int probed = 0;

  Run(Due due) {
    this.due = due;
  }

  int set(int setting, int value) {
    return made("set(" + setting + ", " + value + ")", x -> x.set(setting, value));
  }

  int write(int address, int number) {
    return made("write(" + address + ", " + number + ")", x -> x.write(address, number));
  }

  int read(int address) {
    return made("read(" + address + ")", x -> x.read(address));
  }

  int refresh(int address) {
    return made("refresh(" + address + ")", x -> x.refresh(address));
  }

  int seek(int track) {
    return made("seek(" + track + ")", x -> x.seek(track));
  }

  int idle(int ticks) {
    return made("idle(" + ticks + ")", x -> x.idle(ticks));
  }

  int run(boolean isByTracks) {
    return made("run(" + isByTracks + ")", x -> x.run(isByTracks));
  }

  int sector(int address, int what) {
    return made("sector(" + address + ", " + what + ")", x -> x.sector(address, what));
  }

  int track(int track, int what) {
    return made("track(" + track + ", " + what + ")", x -> x.track(track, what));
  }

  int count(int what) {
    return made("count(" + what + ")", x -> x.count(what));
  }

  int ticksFor(int address, boolean isWriting) {
    return made("ticksFor(" + address + ", " + isWriting + ")", x -> x.ticksFor(address, isWriting));
  }

  int ifRun(boolean isByTracks) {
    return made("ifRun(" + isByTracks + ")", x -> x.ifRun(isByTracks));
  }

  int untilLost(int address, int other) {
    return made("untilLost(" + address + ", " + other + ")", x -> x.untilLost(address, other));
  }

  int worst() {
    return made("worst()", GrooveTurns::worst);
  }

  int put(long characters) {
    return made("put(" + characters + ")", x -> x.put(characters));
  }

  int wipe() {
    return made("wipe()", GrooveTurns::wipe);
  }

  int fault() {
    return made("fault()", GrooveTurns::fault);
  }

  int undo() {
    return made("undo()", GrooveTurns::undo);
  }

  int save(int slot) {
    return made("save(" + slot + ")", x -> x.save(slot));
  }

  int restore(int slot) {
    return made("restore(" + slot + ")", x -> x.restore(slot));
  }

  private int made(String name, Call call) {
    if (calls.size() == MOST_CALLS) throw new IllegalStateException("the test makes more than 512 calls");
    calls.add(call);
    probe = null;
    due.notes(name);
    return (int) call.on(object);
  }

  int made() {
    return calls.size();
  }

  /** Puts a text of any length, and answers the last put(). */
  int type(String text) {
    int answer = 0;
    for (int from = 0; from < text.length(); from += 8) {
      answer = put(packed(text.substring(from, Math.min(text.length(), from + 8))));
    }
    return answer;
  }

  /** Up to 8 characters as put() takes them. */
  static long packed(String text) {
    long number = 0;
    for (char sign : text.toCharArray()) number = number << 8 | sign;
    return number;
  }

  /** What a call that changes nothing would answer here; it is not made on this object. */
  long probe(Call ask) {
    if (probe == null || probed == MOST_CALLS) {
      probe = again();
      probed = calls.size();
    }
    probed++;
    return ask.on(probe);
  }

  private GrooveTurns again(Call... more) {
    if (calls.size() + more.length >= MOST_CALLS) throw new IllegalStateException("no call is left to look");
    GrooveTurns other = new GrooveTurns();
    for (Call call : calls) call.on(other);
    for (Call call : more) call.on(other);
    return other;
  }

  /** All that can be seen of the disc: less the pad, the slots and the history. */
  String disc() {
    StringBuilder seen = new StringBuilder();
    for (int what = 0; what < 16; what++) {
      final int w = what;
      seen.append("count(").append(what).append(")=").append(probe(x -> x.count(w))).append(' ');
    }
    seen.append("worst=").append(probe(GrooveTurns::worst)).append(' ');
    for (int track = 0; track < 17; track++) tell(seen, "track", track, 4);
    for (int address = 0; address < 192; address++) tell(seen, "sector", address, 7);
    for (int address = 0; address < 192; address += 5) {
      final int a = address;
      seen.append("ticksFor(").append(address).append(")=").append(probe(x -> x.ticksFor(a, true))).append(' ');
    }
    return seen.toString();
  }

  private void tell(StringBuilder seen, String kind, int index, int whats) {
    seen.append(kind).append('(').append(index).append(")=");
    for (int what = 0; what < whats; what++) {
      final int w = what;
      seen.append(probe(x -> kind.equals("track") ? x.track(index, w) : x.sector(index, w))).append(',');
    }
    seen.append(' ');
  }

  /** All that can be seen, also by what undo(), restore() and run() would bring. */
  String look() {
    StringBuilder seen = new StringBuilder(disc());
    seen.append("count(16)=").append(probe(x -> x.count(PAD))).append(" fault=").append(probe(GrooveTurns::fault));
    seen.append(" ifRun=").append(probe(x -> x.ifRun(false))).append(',').append(probe(x -> x.ifRun(true)));
    long undos = probe(x -> x.count(UNDOS));
    seen.append(" count(17)=").append(undos);
    Call[] back = new Call[0];
    for (int times = 1; times <= Math.min(7, undos); times++) {
      back = new Call[times];
      java.util.Arrays.fill(back, (Call) GrooveTurns::undo);
      behind(seen, " undone " + times, back);
    }
    behind(seen, " slot 0", x -> x.restore(0));
    behind(seen, " slot 1", x -> x.restore(1));
    behind(seen, " run", x -> x.run(false));
    behind(seen, " by tracks", x -> x.run(true));
    return seen.toString();
  }

  private void behind(StringBuilder seen, String name, Call... more) {
    GrooveTurns other = again(more);
    seen.append(name).append(':');
    int left = MOST_CALLS - calls.size() - more.length;
    for (int what = 0; what < 18 && left > 0; what++, left--) seen.append(other.count(what)).append(',');
    for (int ask = 0; ask < 17 * 4 && left > 0; ask++, left--) seen.append(other.track(ask / 4, ask % 4)).append(',');
    for (int address = 0; address < 192 && left > 0; address++, left--) {
      seen.append(other.sector(address, address % 12 == 0 ? BLUR : HOLDS)).append(',');
    }
  }
}
