import java.util.List;
import java.util.function.ToLongFunction;

/** Calls of all methods, each with arguments that are right in the busy house. */
final class Calls {
    /** A call as it is written, and as it is done; a boolean counts 1 or 0. */
    record Call(String text, ToLongFunction<LeaseHouse> done) {
    }

    static final List<Call> THAT_NEED_A_NAME = List.of(
            new Call("want(9, 5)", house -> house.want(9, 5)),
            new Call("free(0)", house -> house.free(0)),
            new Call("renew(0, 5)", house -> house.renew(0, 5)),
            new Call("leave(2)", house -> house.leave(2)),
            new Call("holder()", LeaseHouse::holder),
            new Call("left()", LeaseHouse::left),
            new Call("waiting(0)", house -> house.waiting(0)),
            new Call("job(1, 1)", house -> house.job(1, 1)),
            new Call("cancel()", LeaseHouse::cancel),
            new Call("ask()", LeaseHouse::ask),
            new Call("watch(9)", house -> house.watch(9)));

    /** These need a name too, but without one they are not REFUSED: they answer 0. */
    static final List<Call> THAT_ANSWER_0_WITHOUT_A_NAME = List.of(
            new Call("known()", house -> house.known() ? 1 : 0),
            new Call("count(6)", house -> house.count(6)));

    static final List<Call> THAT_CHANGE_THE_TAPE = List.of(
            new Call("sign('q')", house -> house.sign('q')),
            new Call("erase()", LeaseHouse::erase),
            new Call("first()", LeaseHouse::first),
            new Call("work()", LeaseHouse::work),
            new Call("note(7)", house -> house.note(7)));

    static final List<Call> THAT_NEED_NO_NAME = List.of(
            new Call("tick(50)", house -> house.tick(50)),
            new Call("waits(0, 9)", house -> house.waits(0, 9)),
            new Call("waited(9)", house -> house.waited(9)),
            new Call("letter(0)", house -> house.letter(0)),
            new Call("count(0)", house -> house.count(0)),
            new Call("count(1)", house -> house.count(1)),
            new Call("count(2)", house -> house.count(2)),
            new Call("count(3)", house -> house.count(3)),
            new Call("count(4)", house -> house.count(4)),
            new Call("count(5)", house -> house.count(5)),
            new Call("count(7)", house -> house.count(7)));

    static final List<List<Call>> ALL = List.of(
            THAT_NEED_A_NAME, THAT_ANSWER_0_WITHOUT_A_NAME, THAT_CHANGE_THE_TAPE, THAT_NEED_NO_NAME);

    private Calls() {
    }

    static List<Call> by(int client) {
        return List.of(
                new Call("want(" + client + ", 5)", house -> house.want(client, 5)),
                new Call("free(" + client + ")", house -> house.free(client)),
                new Call("renew(" + client + ", 5)", house -> house.renew(client, 5)),
                new Call("leave(" + client + ")", house -> house.leave(client)),
                new Call("watch(" + client + ")", house -> house.watch(client)),
                new Call("note(" + client + ")", house -> house.note(client)));
    }
}
